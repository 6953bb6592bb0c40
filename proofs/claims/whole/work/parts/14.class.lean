theorem dX6_addOrder_0 : decode cX6_addOrder 0 = .ok (.aload_n 0, 1) := by decide +kernel
theorem dX6_addOrder_1 : decode cX6_addOrder 1 = .ok (.getfield 56, 3) := by decide +kernel
theorem dX6_addOrder_4 : decode cX6_addOrder 4 = .ok (.bipush 8, 2) := by decide +kernel
theorem dX6_addOrder_6 : decode cX6_addOrder 6 = .ok (.if_icmp .lt 4, 3) := by decide +kernel
theorem dX6_addOrder_9 : decode cX6_addOrder 9 = .ok (.return_, 1) := by decide +kernel
theorem dX6_addOrder_10 : decode cX6_addOrder 10 = .ok (.aload_n 0, 1) := by decide +kernel
theorem dX6_addOrder_11 : decode cX6_addOrder 11 = .ok (.getfield 25, 3) := by decide +kernel
theorem dX6_addOrder_14 : decode cX6_addOrder 14 = .ok (.aload_n 0, 1) := by decide +kernel
theorem dX6_addOrder_15 : decode cX6_addOrder 15 = .ok (.getfield 56, 3) := by decide +kernel
theorem dX6_addOrder_18 : decode cX6_addOrder 18 = .ok (.aaload, 1) := by decide +kernel
theorem dX6_addOrder_19 : decode cX6_addOrder 19 = .ok (.astore 4, 2) := by decide +kernel
theorem dX6_addOrder_21 : decode cX6_addOrder 21 = .ok (.aload 4, 2) := by decide +kernel
theorem dX6_addOrder_23 : decode cX6_addOrder 23 = .ok (.iload_n 1, 1) := by decide +kernel
theorem dX6_addOrder_24 : decode cX6_addOrder 24 = .ok (.putfield 175, 3) := by decide +kernel
theorem dX6_addOrder_27 : decode cX6_addOrder 27 = .ok (.aload 4, 2) := by decide +kernel
theorem dX6_addOrder_29 : decode cX6_addOrder 29 = .ok (.iload_n 2, 1) := by decide +kernel
theorem dX6_addOrder_30 : decode cX6_addOrder 30 = .ok (.putfield 176, 3) := by decide +kernel
theorem dX6_addOrder_33 : decode cX6_addOrder 33 = .ok (.aload 4, 2) := by decide +kernel
theorem dX6_addOrder_35 : decode cX6_addOrder 35 = .ok (.iload_n 3, 1) := by decide +kernel
theorem dX6_addOrder_36 : decode cX6_addOrder 36 = .ok (.putfield 177, 3) := by decide +kernel
theorem dX6_addOrder_39 : decode cX6_addOrder 39 = .ok (.aload_n 0, 1) := by decide +kernel
theorem dX6_addOrder_40 : decode cX6_addOrder 40 = .ok (.dup, 1) := by decide +kernel
theorem dX6_addOrder_41 : decode cX6_addOrder 41 = .ok (.getfield 56, 3) := by decide +kernel
theorem dX6_addOrder_44 : decode cX6_addOrder 44 = .ok (.iconst 1, 1) := by decide +kernel
theorem dX6_addOrder_45 : decode cX6_addOrder 45 = .ok (.iadd, 1) := by decide +kernel
theorem dX6_addOrder_46 : decode cX6_addOrder 46 = .ok (.putfield 56, 3) := by decide +kernel
theorem dX6_addOrder_49 : decode cX6_addOrder 49 = .ok (.return_, 1) := by decide +kernel
theorem lp_RX6_175 : gLp RX6 175 4 0 := ⟨(RX4, TX4, 3), rfl, by decide, wA_t (wt1 (List.mem_of_getElem? (i := 233) (by decide +kernel))) (by decide +kernel), rfl, rfl⟩
theorem lp_RX6_176 : gLp RX6 176 4 1 := ⟨(RX4, TX4, 3), rfl, by decide, wA_t (wt1 (List.mem_of_getElem? (i := 236) (by decide +kernel))) (by decide +kernel), rfl, rfl⟩
theorem lp_RX6_177 : gLp RX6 177 4 2 := ⟨(RX4, TX4, 3), rfl, by decide, wA_t (wt1 (List.mem_of_getElem? (i := 239) (by decide +kernel))) (by decide +kernel), rfl, rfl⟩
def rm_X6_addOrder : Room := { frames := 0, cells := 0, slots := 0, locals := 0 }
def f_X6_addOrder (τ : gτ) (x0 : Nat) (x1 : Int32) (x2 : Int32) (x3 : Int32) (G : gG) : Option (gG) :=
  if (gi G 6 6 x0) < (8 : Int32) then ((gr G 6 2 x0).bind fun a1 =>
  gchk (gIn (gi G 6 6 x0) (gn τ a1)) <| (gq G a1 (Int32.toNatClampNeg (gi G 6 6 x0))).bind fun a2 =>
  gLet (gsi G 4 0 a2 x1) fun G3 =>
  gLet (gsi G3 4 1 a2 x2) fun G4 =>
  gLet (gsi G4 4 2 a2 x3) fun G5 =>
  gLet (gsi G5 6 6 x0 ((gi G5 6 6 x0) + (1 : Int32))) fun G6 =>
  some G6)
  else (some G)
set_option maxHeartbeats 4000000 in
set_option maxRecDepth 100000 in
theorem c_X6_addOrder (l : Launch) (X : gX) (τ : gτ) (x0 : Nat) (x1 : Int32) (x2 : Int32) (x3 : Int32) (G : gG) (h0 : gK τ x0 6) {G' : gG} (h : f_X6_addOrder τ x0 x1 x2 x3 G = some G') : gM l X τ yX6_addOrder cX6_addOrder 5 none rm_X6_addOrder [.ref x0, .int x1, .int x2, .int x3] G none G' := by
  refine g_body (by decide +kernel) (Nat.le_of_ble_eq_true rfl) ?_
  intro p e s m args below meth c ls fx hr hw hl
  have fx : gFx X p s m args meth c cX6_addOrder 5 RX6 := fx
  have hl : lv_has ls 5 [(0, .ref x0), (1, .int x1), (2, .int x2), (3, .int x3)] := hl
  have hok : gOk (f_X6_addOrder τ x0 x1 x2 x3 G) (fun q => q = G') := ⟨_, h, rfl⟩
  unfold f_X6_addOrder at hok
  show W p l e rm_X6_addOrder s m args below meth c s.heap [] 0 0 (MQ below (gQ X τ none G') args s 0 0 (gFree X)) _
  refine lv_aload_n fx.1 fx.2.1 dX6_addOrder_0 rfl (lv_at hl 0 rfl) ?_
  refine g_geti fx hw h0 lf_RX6_56 rfl dX6_addOrder_1 ?_
  refine lv_bipush (v := 8) fx.1 fx.2.1 dX6_addOrder_4 (by decide) ?_
  refine g_icmp_lt (tgt := 10) fx dX6_addOrder_6 (by decide) hok (fun hok => ?_) (fun hok => ?_)
  · refine lv_aload_n fx.1 fx.2.1 dX6_addOrder_10 rfl (lv_at hl 0 rfl) ?_
    refine g_getr fx hw h0 lf_RX6_25 rfl dX6_addOrder_11 hok (fun a1 h_a1 hok => ?_)
    refine lv_aload_n fx.1 fx.2.1 dX6_addOrder_14 rfl (lv_at hl 0 rfl) ?_
    refine g_geti fx hw h0 lf_RX6_56 rfl dX6_addOrder_15 ?_
    refine g_aald fx hw 14 2 h_a1 (by decide) (by decide) rfl (κ' := 4) rfl dX6_addOrder_18 hok (fun a2 h_a2 hok => ?_)
    refine lv_astore (lv' := [(4, .ref a2), (0, .ref x0), (1, .int x1), (2, .int x2), (3, .int x3)]) fx.1 fx.2.1 dX6_addOrder_19 hl (by decide) rfl (fun ls hl => ?_)
    refine lv_aload fx.1 fx.2.1 dX6_addOrder_21 (lv_at hl 0 rfl) ?_
    refine lv_iload_n fx.1 fx.2.1 dX6_addOrder_23 rfl (lv_at hl 2 rfl) ?_
    refine g_puti fx hw h_a2 lp_RX6_175 rfl rfl dX6_addOrder_24 hok (fun G3 H locs hw hok => ?_)
    refine lv_aload fx.1 fx.2.1 dX6_addOrder_27 (lv_at hl 0 rfl) ?_
    refine lv_iload_n fx.1 fx.2.1 dX6_addOrder_29 rfl (lv_at hl 3 rfl) ?_
    refine g_puti fx hw h_a2 lp_RX6_176 rfl rfl dX6_addOrder_30 hok (fun G4 H locs hw hok => ?_)
    refine lv_aload fx.1 fx.2.1 dX6_addOrder_33 (lv_at hl 0 rfl) ?_
    refine lv_iload_n fx.1 fx.2.1 dX6_addOrder_35 rfl (lv_at hl 4 rfl) ?_
    refine g_puti fx hw h_a2 lp_RX6_177 rfl rfl dX6_addOrder_36 hok (fun G5 H locs hw hok => ?_)
    refine lv_aload_n fx.1 fx.2.1 dX6_addOrder_39 rfl (lv_at hl 1 rfl) ?_
    refine lv_dup fx.1 fx.2.1 dX6_addOrder_40 rfl ?_
    refine g_geti fx hw h0 lf_RX6_56 rfl dX6_addOrder_41 ?_
    refine lv_iconst (v := 1) fx.1 fx.2.1 dX6_addOrder_44 (by decide) ?_
    refine lv_iadd fx.1 fx.2.1 dX6_addOrder_45 ?_
    refine g_puti fx hw h0 lp_RX6_56 rfl rfl dX6_addOrder_46 hok (fun G6 H locs hw hok => ?_)
    cases gOk_some hok
    exact g_vret fx hw hr dX6_addOrder_49
  · cases gOk_some hok
    exact g_vret fx hw hr dX6_addOrder_9
theorem dX6_removeOrder_0 : decode cX6_removeOrder 0 = .ok (.iload_n 1, 1) := by decide +kernel
theorem dX6_removeOrder_1 : decode cX6_removeOrder 1 = .ok (.istore_n 2, 1) := by decide +kernel
theorem dX6_removeOrder_2 : decode cX6_removeOrder 2 = .ok (.iload_n 2, 1) := by decide +kernel
theorem dX6_removeOrder_3 : decode cX6_removeOrder 3 = .ok (.ifCond .lt 36, 3) := by decide +kernel
theorem dX6_removeOrder_6 : decode cX6_removeOrder 6 = .ok (.iload_n 2, 1) := by decide +kernel
theorem dX6_removeOrder_7 : decode cX6_removeOrder 7 = .ok (.iconst 1, 1) := by decide +kernel
theorem dX6_removeOrder_8 : decode cX6_removeOrder 8 = .ok (.iadd, 1) := by decide +kernel
theorem dX6_removeOrder_9 : decode cX6_removeOrder 9 = .ok (.aload_n 0, 1) := by decide +kernel
theorem dX6_removeOrder_10 : decode cX6_removeOrder 10 = .ok (.getfield 56, 3) := by decide +kernel
theorem dX6_removeOrder_13 : decode cX6_removeOrder 13 = .ok (.if_icmp .ge 26, 3) := by decide +kernel
theorem dX6_removeOrder_16 : decode cX6_removeOrder 16 = .ok (.aload_n 0, 1) := by decide +kernel
theorem dX6_removeOrder_17 : decode cX6_removeOrder 17 = .ok (.getfield 25, 3) := by decide +kernel
theorem dX6_removeOrder_20 : decode cX6_removeOrder 20 = .ok (.iload_n 2, 1) := by decide +kernel
theorem dX6_removeOrder_21 : decode cX6_removeOrder 21 = .ok (.aaload, 1) := by decide +kernel
theorem dX6_removeOrder_22 : decode cX6_removeOrder 22 = .ok (.aload_n 0, 1) := by decide +kernel
theorem dX6_removeOrder_23 : decode cX6_removeOrder 23 = .ok (.getfield 25, 3) := by decide +kernel
theorem dX6_removeOrder_26 : decode cX6_removeOrder 26 = .ok (.iload_n 2, 1) := by decide +kernel
theorem dX6_removeOrder_27 : decode cX6_removeOrder 27 = .ok (.iconst 1, 1) := by decide +kernel
theorem dX6_removeOrder_28 : decode cX6_removeOrder 28 = .ok (.iadd, 1) := by decide +kernel
theorem dX6_removeOrder_29 : decode cX6_removeOrder 29 = .ok (.aaload, 1) := by decide +kernel
theorem dX6_removeOrder_30 : decode cX6_removeOrder 30 = .ok (.invokevirtual 59, 3) := by decide +kernel
theorem dX6_removeOrder_33 : decode cX6_removeOrder 33 = .ok (.iinc 2 1, 3) := by decide +kernel
theorem dX6_removeOrder_36 : decode cX6_removeOrder 36 = .ok (.goto (-34), 3) := by decide +kernel
theorem dX6_removeOrder_39 : decode cX6_removeOrder 39 = .ok (.aload_n 0, 1) := by decide +kernel
theorem dX6_removeOrder_40 : decode cX6_removeOrder 40 = .ok (.dup, 1) := by decide +kernel
theorem dX6_removeOrder_41 : decode cX6_removeOrder 41 = .ok (.getfield 56, 3) := by decide +kernel
theorem dX6_removeOrder_44 : decode cX6_removeOrder 44 = .ok (.iconst 1, 1) := by decide +kernel
theorem dX6_removeOrder_45 : decode cX6_removeOrder 45 = .ok (.isub, 1) := by decide +kernel
theorem dX6_removeOrder_46 : decode cX6_removeOrder 46 = .ok (.putfield 56, 3) := by decide +kernel
theorem dX6_removeOrder_49 : decode cX6_removeOrder 49 = .ok (.return_, 1) := by decide +kernel
def rm_X6_removeOrder : Room := { frames := 1, cells := 0, slots := 0, locals := 21 }
def b_X6_removeOrder_2 (τ : gτ) (n : Nat) (x0 : Nat) (x2 : Int32) (G : gG) : Option ((Int32 × gG) ⊕ ((gG))) :=
  if x2 < 0 then (some (.inr G))
  else (if (gi G 6 6 x0) ≤ (x2 + (1 : Int32)) then (some (.inr G))
  else ((gr G 6 2 x0).bind fun a1 =>
  gchk (gIn x2 (gn τ a1)) <| (gq G a1 (Int32.toNatClampNeg x2)).bind fun a2 =>
  (gr G 6 2 x0).bind fun a3 =>
  gchk (gIn (x2 + (1 : Int32)) (gn τ a3)) <| (gq G a3 (Int32.toNatClampNeg (x2 + (1 : Int32)))).bind fun a4 =>
  (f_X4_become a2 a4 G).bind fun G5 =>
  gLet (x2 + 1) fun v6 =>
  some (.inl (v6, G5))))
def l_X6_removeOrder_2 (τ : gτ) (n : Nat) (x0 : Nat) (x2 : Int32) (G : gG) : Option ((gG)) :=
  gIter (fun (q : Int32 × gG) => b_X6_removeOrder_2 τ n x0 q.1 q.2) n (x2, G)
def k_X6_removeOrder_39 (τ : gτ) (n : Nat) (x0 : Nat)  (G : gG) : Option (gG) :=
  gLet (gsi G 6 6 x0 ((gi G 6 6 x0) - (1 : Int32))) fun G8 =>
  some G8
def f_X6_removeOrder (τ : gτ) (n : Nat) (x0 : Nat) (x1 : Int32) (G : gG) : Option (gG) :=
  (l_X6_removeOrder_2 τ n x0 x1 G).bind fun q => gLet q fun G7 => 
  k_X6_removeOrder_39 τ n x0  G7
set_option maxHeartbeats 4000000 in
set_option maxRecDepth 100000 in
theorem w_b_X6_removeOrder_2 {X : gX} {τ : gτ} {p : Program} {l : Launch} {e : Env} {s : State} {m : MethodId} {args : Array Value} {below : List Frame} {meth : Method} {c : Code} (fx : gFx X p s m args meth c cX6_removeOrder 3 RX6) (n : Nat) (x0 : Nat) (x2 : Int32) (h0 : gK τ x0 6) {Q : State → Prop} {K : ((Int32 × gG) ⊕ ((gG))) → Prop} {G : gG} {H : Heap} {locs : List Loc} {ls : Array Slot} (hw : gHw X τ G H locs) (hl : lv_has ls 3 [(0, .ref x0), (2, .int x2)]) (hok : gOk (b_X6_removeOrder_2 τ n x0 x2 G) K) (hc : ∀ (y2 : Int32) (G : gG) (H : Heap) (locs : List Loc) (ls : Array Slot), gHw X τ G H locs → lv_has ls 3 [(0, .ref x0), (2, .int y2)] → K (.inl (y2, G)) → W p l e rm_X6_removeOrder s m args below meth c H locs 0 0 Q (F0 m 2 ls [])) (hx0 : ∀ (G : gG) (H : Heap) (locs : List Loc) (ls : Array Slot), gHw X τ G H locs → lv_has ls 3 [(0, .ref x0)] → K (.inr G) → W p l e rm_X6_removeOrder s m args below meth c H locs 0 0 Q (F0 m 39 ls [])) : W p l e rm_X6_removeOrder s m args below meth c H locs 0 0 Q (F0 m 2 ls []) := by
  unfold b_X6_removeOrder_2 at hok
  refine lv_iload_n fx.1 fx.2.1 dX6_removeOrder_2 rfl (lv_at hl 1 rfl) ?_
  refine g_if_lt (tgt := 39) fx dX6_removeOrder_3 (by decide) hok (fun hok => ?_) (fun hok => ?_)
  · exact hx0  G _ _ _  hw (lv_sub hl [0] rfl) (gOk_some hok)
  · refine lv_iload_n fx.1 fx.2.1 dX6_removeOrder_6 rfl (lv_at hl 1 rfl) ?_
    refine lv_iconst (v := 1) fx.1 fx.2.1 dX6_removeOrder_7 (by decide) ?_
    refine lv_iadd fx.1 fx.2.1 dX6_removeOrder_8 ?_
    refine lv_aload_n fx.1 fx.2.1 dX6_removeOrder_9 rfl (lv_at hl 0 rfl) ?_
    refine g_geti fx hw h0 lf_RX6_56 rfl dX6_removeOrder_10 ?_
    refine g_icmp_ge (tgt := 39) fx dX6_removeOrder_13 (by decide) hok (fun hok => ?_) (fun hok => ?_)
    · exact hx0  G _ _ _  hw (lv_sub hl [0] rfl) (gOk_some hok)
    · refine lv_aload_n fx.1 fx.2.1 dX6_removeOrder_16 rfl (lv_at hl 0 rfl) ?_
      refine g_getr fx hw h0 lf_RX6_25 rfl dX6_removeOrder_17 hok (fun a1 h_a1 hok => ?_)
      refine lv_iload_n fx.1 fx.2.1 dX6_removeOrder_20 rfl (lv_at hl 1 rfl) ?_
      refine g_aald fx hw 14 2 h_a1 (by decide) (by decide) rfl (κ' := 4) rfl dX6_removeOrder_21 hok (fun a2 h_a2 hok => ?_)
      refine lv_aload_n fx.1 fx.2.1 dX6_removeOrder_22 rfl (lv_at hl 0 rfl) ?_
      refine g_getr fx hw h0 lf_RX6_25 rfl dX6_removeOrder_23 hok (fun a3 h_a3 hok => ?_)
      refine lv_iload_n fx.1 fx.2.1 dX6_removeOrder_26 rfl (lv_at hl 1 rfl) ?_
      refine lv_iconst (v := 1) fx.1 fx.2.1 dX6_removeOrder_27 (by decide) ?_
      refine lv_iadd fx.1 fx.2.1 dX6_removeOrder_28 ?_
      refine g_aald fx hw 14 2 h_a3 (by decide) (by decide) rfl (κ' := 4) rfl dX6_removeOrder_29 hok (fun a4 h_a4 hok => ?_)
      obtain ⟨G5, hf, hok⟩ := gOk_bind hok
      refine g_callV0 (κ := 4) fx hw (c_X4_become l X τ a2 a4 G h_a2 h_a4 hf) lv_RX6_59 ⟨rfl, rfl⟩ rfl rfl h_a2 rfl hl.1 rfl ⟨Nat.le_of_ble_eq_true rfl, Nat.le_of_ble_eq_true rfl⟩ (Nat.le_of_ble_eq_true rfl) ⟨Nat.le_of_ble_eq_true rfl, Nat.le_of_ble_eq_true rfl⟩ dX6_removeOrder_30 (fun H locs hw => ?_)
      obtain ⟨v6, e_v6, hok⟩ := gOk_let hok
      refine lv_iinc (v := v6) (lv' := [(2, .int v6), (0, .ref x0)]) fx.1 fx.2.1 dX6_removeOrder_33 hl (k := 1) rfl (by rw [e_v6]; rfl) (by decide) rfl (fun ls hl => ?_)
      refine lv_goto (tgt := 2) fx.1 fx.2.1 dX6_removeOrder_36 (by decide) ?_
      exact hc v6 G5 _ _ _  hw (lv_sub hl [1, 0] rfl) (gOk_some hok)
theorem w_l_X6_removeOrder_2 {X : gX} {τ : gτ} {p : Program} {l : Launch} {e : Env} {s : State} {m : MethodId} {args : Array Value} {below : List Frame} {meth : Method} {c : Code} (fx : gFx X p s m args meth c cX6_removeOrder 3 RX6) (n : Nat) (x0 : Nat) (h0 : gK τ x0 6) {Q : State → Prop} {K : ((gG)) → Prop} (hx0 : ∀ (G : gG) (H : Heap) (locs : List Loc) (ls : Array Slot), gHw X τ G H locs → lv_has ls 3 [(0, .ref x0)] → K G → W p l e rm_X6_removeOrder s m args below meth c H locs 0 0 Q (F0 m 39 ls [])) : ∀ (k : Nat) (x2 : Int32) (G : gG) (H : Heap) (locs : List Loc) (ls : Array Slot), gHw X τ G H locs → lv_has ls 3 [(0, .ref x0), (2, .int x2)] → gOk (gIter (fun (q : Int32 × gG) => b_X6_removeOrder_2 τ n x0 q.1 q.2) k (x2, G)) K → W p l e rm_X6_removeOrder s m args below meth c H locs 0 0 Q (F0 m 2 ls []) := by
  intro k
  induction k with
  | zero =>
    intro x2 G H locs ls hw hl hok
    exact gOk_iter0 hok
  | succ k hc =>
    intro x2 G H locs ls hw hl hok
    exact w_b_X6_removeOrder_2 fx n x0 x2 h0 hw hl (gOk_iter hok) hc hx0
set_option maxHeartbeats 4000000 in
set_option maxRecDepth 100000 in
theorem w_X6_removeOrder_39 {X : gX} {τ : gτ} {p : Program} {l : Launch} {e : Env} {s : State} {m : MethodId} {args : Array Value} {below : List Frame} {meth : Method} {c : Code} (fx : gFx X p s m args meth c cX6_removeOrder 3 RX6) (n : Nat) (x0 : Nat)  (h0 : gK τ x0 6)  (hr : meth.sig.returnType = none) {G' : gG} {G : gG} {H : Heap} {locs : List Loc} {ls : Array Slot} (hw : gHw X τ G H locs) (hl : lv_has ls 3 [(0, .ref x0)]) (hok : gOk (k_X6_removeOrder_39 τ n x0  G) (fun q => q = G'))  : W p l e rm_X6_removeOrder s m args below meth c H locs 0 0 (MQ below (gQ X τ none G') args s 0 0 (gFree X)) (F0 m 39 ls []) := by
  unfold k_X6_removeOrder_39 at hok
  refine lv_aload_n fx.1 fx.2.1 dX6_removeOrder_39 rfl (lv_at hl 0 rfl) ?_
  refine lv_dup fx.1 fx.2.1 dX6_removeOrder_40 rfl ?_
  refine g_geti fx hw h0 lf_RX6_56 rfl dX6_removeOrder_41 ?_
  refine lv_iconst (v := 1) fx.1 fx.2.1 dX6_removeOrder_44 (by decide) ?_
  refine lv_isub fx.1 fx.2.1 dX6_removeOrder_45 ?_
  refine g_puti fx hw h0 lp_RX6_56 rfl rfl dX6_removeOrder_46 hok (fun G8 H locs hw hok => ?_)
  cases gOk_some hok
  exact g_vret fx hw hr dX6_removeOrder_49
set_option maxHeartbeats 4000000 in
set_option maxRecDepth 100000 in
theorem c_X6_removeOrder (l : Launch) (X : gX) (τ : gτ) (n : Nat) (x0 : Nat) (x1 : Int32) (G : gG) (h0 : gK τ x0 6) {G' : gG} (h : f_X6_removeOrder τ n x0 x1 G = some G') : gM l X τ yX6_removeOrder cX6_removeOrder 3 none rm_X6_removeOrder [.ref x0, .int x1] G none G' := by
  refine g_body (by decide +kernel) (Nat.le_of_ble_eq_true rfl) ?_
  intro p e s m args below meth c ls fx hr hw hl
  have fx : gFx X p s m args meth c cX6_removeOrder 3 RX6 := fx
  have hl : lv_has ls 3 [(0, .ref x0), (1, .int x1)] := hl
  have hok : gOk (f_X6_removeOrder τ n x0 x1 G) (fun q => q = G') := ⟨_, h, rfl⟩
  unfold f_X6_removeOrder at hok
  show W p l e rm_X6_removeOrder s m args below meth c s.heap [] 0 0 (MQ below (gQ X τ none G') args s 0 0 (gFree X)) _
  refine lv_iload_n fx.1 fx.2.1 dX6_removeOrder_0 rfl (lv_at hl 1 rfl) ?_
  refine lv_istore_n (lv' := [(2, .int x1), (0, .ref x0), (1, .int x1)]) fx.1 fx.2.1 dX6_removeOrder_1 rfl hl (by decide) rfl (fun ls hl => ?_)
  refine w_l_X6_removeOrder_2 fx n x0 h0 ?_ n x1 G _ _ _  hw (lv_sub hl [1, 0] rfl) (gOk_bindK hok)
  intro G7 H locs ls hw hl hok
  have hok : gOk (ρ := gG) (k_X6_removeOrder_39 τ n x0  G7) _ := hok
  exact w_X6_removeOrder_39 fx n x0  h0  hr hw (lv_sub hl [0] rfl) hok
theorem dX6_ordersBorne_0 : decode cX6_ordersBorne 0 = .ok (.iconst 0, 1) := by decide +kernel
theorem dX6_ordersBorne_1 : decode cX6_ordersBorne 1 = .ok (.istore_n 2, 1) := by decide +kernel
theorem dX6_ordersBorne_2 : decode cX6_ordersBorne 2 = .ok (.iconst 0, 1) := by decide +kernel
theorem dX6_ordersBorne_3 : decode cX6_ordersBorne 3 = .ok (.istore_n 3, 1) := by decide +kernel
theorem dX6_ordersBorne_4 : decode cX6_ordersBorne 4 = .ok (.iload_n 3, 1) := by decide +kernel
theorem dX6_ordersBorne_5 : decode cX6_ordersBorne 5 = .ok (.aload_n 0, 1) := by decide +kernel
theorem dX6_ordersBorne_6 : decode cX6_ordersBorne 6 = .ok (.getfield 56, 3) := by decide +kernel
theorem dX6_ordersBorne_9 : decode cX6_ordersBorne 9 = .ok (.if_icmp .ge 28, 3) := by decide +kernel
theorem dX6_ordersBorne_12 : decode cX6_ordersBorne 12 = .ok (.aload_n 0, 1) := by decide +kernel
theorem dX6_ordersBorne_13 : decode cX6_ordersBorne 13 = .ok (.getfield 25, 3) := by decide +kernel
theorem dX6_ordersBorne_16 : decode cX6_ordersBorne 16 = .ok (.iload_n 3, 1) := by decide +kernel
theorem dX6_ordersBorne_17 : decode cX6_ordersBorne 17 = .ok (.aaload, 1) := by decide +kernel
theorem dX6_ordersBorne_18 : decode cX6_ordersBorne 18 = .ok (.getfield 175, 3) := by decide +kernel
theorem dX6_ordersBorne_21 : decode cX6_ordersBorne 21 = .ok (.iload_n 1, 1) := by decide +kernel
theorem dX6_ordersBorne_22 : decode cX6_ordersBorne 22 = .ok (.if_icmp .gt 9, 3) := by decide +kernel
theorem dX6_ordersBorne_25 : decode cX6_ordersBorne 25 = .ok (.iload_n 2, 1) := by decide +kernel
theorem dX6_ordersBorne_26 : decode cX6_ordersBorne 26 = .ok (.iconst 1, 1) := by decide +kernel
theorem dX6_ordersBorne_27 : decode cX6_ordersBorne 27 = .ok (.iload_n 3, 1) := by decide +kernel
theorem dX6_ordersBorne_28 : decode cX6_ordersBorne 28 = .ok (.ishl, 1) := by decide +kernel
theorem dX6_ordersBorne_29 : decode cX6_ordersBorne 29 = .ok (.ior, 1) := by decide +kernel
theorem dX6_ordersBorne_30 : decode cX6_ordersBorne 30 = .ok (.istore_n 2, 1) := by decide +kernel
theorem dX6_ordersBorne_31 : decode cX6_ordersBorne 31 = .ok (.iinc 3 1, 3) := by decide +kernel
theorem dX6_ordersBorne_34 : decode cX6_ordersBorne 34 = .ok (.goto (-30), 3) := by decide +kernel
theorem dX6_ordersBorne_37 : decode cX6_ordersBorne 37 = .ok (.iload_n 2, 1) := by decide +kernel
theorem dX6_ordersBorne_38 : decode cX6_ordersBorne 38 = .ok (.ireturn, 1) := by decide +kernel
theorem lf_RX6_175 : gLf RX6 175 4 0 := ⟨(RX4, TX4, 3), rfl, by decide, wA_t (wt1 (List.mem_of_getElem? (i := 233) (by decide +kernel))) (by decide +kernel), rfl⟩
def rm_X6_ordersBorne : Room := { frames := 0, cells := 0, slots := 0, locals := 0 }
def b_X6_ordersBorne_4 (τ : gτ) (n : Nat) (x0 : Nat) (x1 : Int32) (x2 : Int32) (x3 : Int32) (G : gG) : Option ((Int32 × Int32) ⊕ ((Int32))) :=
  if (gi G 6 6 x0) ≤ x3 then (some (.inr x2))
  else ((gr G 6 2 x0).bind fun a1 =>
  gchk (gIn x3 (gn τ a1)) <| (gq G a1 (Int32.toNatClampNeg x3)).bind fun a2 =>
  if x1 < (gi G 4 0 a2) then (gLet (x3 + 1) fun v3 =>
  some (.inl (x2, v3)))
  else (gLet (x2 ||| ((1 : Int32) <<< (x3 &&& 31))) fun v4 =>
  gLet (x3 + 1) fun v5 =>
  some (.inl (v4, v5))))
def l_X6_ordersBorne_4 (τ : gτ) (n : Nat) (x0 : Nat) (x1 : Int32) (x2 : Int32) (x3 : Int32) (G : gG) : Option ((Int32)) :=
  gIter (fun (q : Int32 × Int32) => b_X6_ordersBorne_4 τ n x0 x1 q.1 q.2 G) n (x2, x3)
def f_X6_ordersBorne (τ : gτ) (n : Nat) (x0 : Nat) (x1 : Int32) (G : gG) : Option (Int32) :=
  (l_X6_ordersBorne_4 τ n x0 x1 (0 : Int32) (0 : Int32) G).bind fun q => gLet q fun z6 => 
  some (z6)
set_option maxHeartbeats 4000000 in
set_option maxRecDepth 100000 in
theorem w_b_X6_ordersBorne_4 {X : gX} {τ : gτ} {p : Program} {l : Launch} {e : Env} {s : State} {m : MethodId} {args : Array Value} {below : List Frame} {meth : Method} {c : Code} (fx : gFx X p s m args meth c cX6_ordersBorne 4 RX6) (n : Nat) (x0 : Nat) (x1 : Int32) (x2 : Int32) (x3 : Int32) (h0 : gK τ x0 6) {Q : State → Prop} {K : ((Int32 × Int32) ⊕ ((Int32))) → Prop} {G : gG} {H : Heap} {locs : List Loc} {ls : Array Slot} (hw : gHw X τ G H locs) (hl : lv_has ls 4 [(0, .ref x0), (1, .int x1), (2, .int x2), (3, .int x3)]) (hok : gOk (b_X6_ordersBorne_4 τ n x0 x1 x2 x3 G) K) (hc : ∀ (y2 : Int32) (y3 : Int32) (H : Heap) (locs : List Loc) (ls : Array Slot), gHw X τ G H locs → lv_has ls 4 [(0, .ref x0), (1, .int x1), (2, .int y2), (3, .int y3)] → K (.inl (y2, y3)) → W p l e rm_X6_ordersBorne s m args below meth c H locs 0 0 Q (F0 m 4 ls [])) (hx0 : ∀ (y2 : Int32) (H : Heap) (locs : List Loc) (ls : Array Slot), gHw X τ G H locs → lv_has ls 4 [(2, .int y2)] → K (.inr y2) → W p l e rm_X6_ordersBorne s m args below meth c H locs 0 0 Q (F0 m 37 ls [])) : W p l e rm_X6_ordersBorne s m args below meth c H locs 0 0 Q (F0 m 4 ls []) := by
  unfold b_X6_ordersBorne_4 at hok
  refine lv_iload_n fx.1 fx.2.1 dX6_ordersBorne_4 rfl (lv_at hl 3 rfl) ?_
  refine lv_aload_n fx.1 fx.2.1 dX6_ordersBorne_5 rfl (lv_at hl 0 rfl) ?_
  refine g_geti fx hw h0 lf_RX6_56 rfl dX6_ordersBorne_6 ?_
  refine g_icmp_ge (tgt := 37) fx dX6_ordersBorne_9 (by decide) hok (fun hok => ?_) (fun hok => ?_)
  · exact hx0 x2  _ _ _  hw (lv_sub hl [2] rfl) (gOk_some hok)
  · refine lv_aload_n fx.1 fx.2.1 dX6_ordersBorne_12 rfl (lv_at hl 0 rfl) ?_
    refine g_getr fx hw h0 lf_RX6_25 rfl dX6_ordersBorne_13 hok (fun a1 h_a1 hok => ?_)
    refine lv_iload_n fx.1 fx.2.1 dX6_ordersBorne_16 rfl (lv_at hl 3 rfl) ?_
    refine g_aald fx hw 14 2 h_a1 (by decide) (by decide) rfl (κ' := 4) rfl dX6_ordersBorne_17 hok (fun a2 h_a2 hok => ?_)
    refine g_geti fx hw h_a2 lf_RX6_175 rfl dX6_ordersBorne_18 ?_
    refine lv_iload_n fx.1 fx.2.1 dX6_ordersBorne_21 rfl (lv_at hl 1 rfl) ?_
    refine g_icmp_gt (tgt := 31) fx dX6_ordersBorne_22 (by decide) hok (fun hok => ?_) (fun hok => ?_)
    · obtain ⟨v3, e_v3, hok⟩ := gOk_let hok
      refine lv_iinc (v := v3) (lv' := [(3, .int v3), (0, .ref x0), (1, .int x1), (2, .int x2)]) fx.1 fx.2.1 dX6_ordersBorne_31 hl (k := 3) rfl (by rw [e_v3]; rfl) (by decide) rfl (fun ls hl => ?_)
      refine lv_goto (tgt := 4) fx.1 fx.2.1 dX6_ordersBorne_34 (by decide) ?_
      exact hc x2 v3  _ _ _  hw (lv_sub hl [1, 2, 3, 0] rfl) (gOk_some hok)
    · refine lv_iload_n fx.1 fx.2.1 dX6_ordersBorne_25 rfl (lv_at hl 2 rfl) ?_
      refine lv_iconst (v := 1) fx.1 fx.2.1 dX6_ordersBorne_26 (by decide) ?_
      refine lv_iload_n fx.1 fx.2.1 dX6_ordersBorne_27 rfl (lv_at hl 3 rfl) ?_
      refine lv_ishl fx.1 fx.2.1 dX6_ordersBorne_28 ?_
      refine lv_ior fx.1 fx.2.1 dX6_ordersBorne_29 ?_
      refine g_leti hok (fun v4 hok => ?_)
      refine lv_istore_n (lv' := [(2, .int v4), (0, .ref x0), (1, .int x1), (3, .int x3)]) fx.1 fx.2.1 dX6_ordersBorne_30 rfl hl (by decide) rfl (fun ls hl => ?_)
      obtain ⟨v5, e_v5, hok⟩ := gOk_let hok
      refine lv_iinc (v := v5) (lv' := [(3, .int v5), (2, .int v4), (0, .ref x0), (1, .int x1)]) fx.1 fx.2.1 dX6_ordersBorne_31 hl (k := 3) rfl (by rw [e_v5]; rfl) (by decide) rfl (fun ls hl => ?_)
      refine lv_goto (tgt := 4) fx.1 fx.2.1 dX6_ordersBorne_34 (by decide) ?_
      exact hc v4 v5  _ _ _  hw (lv_sub hl [2, 3, 1, 0] rfl) (gOk_some hok)
theorem w_l_X6_ordersBorne_4 {X : gX} {τ : gτ} {p : Program} {l : Launch} {e : Env} {s : State} {m : MethodId} {args : Array Value} {below : List Frame} {meth : Method} {c : Code} (fx : gFx X p s m args meth c cX6_ordersBorne 4 RX6) (n : Nat) (x0 : Nat) (x1 : Int32) (h0 : gK τ x0 6) (G : gG) {Q : State → Prop} {K : ((Int32)) → Prop} (hx0 : ∀ (y2 : Int32) (H : Heap) (locs : List Loc) (ls : Array Slot), gHw X τ G H locs → lv_has ls 4 [(2, .int y2)] → K y2 → W p l e rm_X6_ordersBorne s m args below meth c H locs 0 0 Q (F0 m 37 ls [])) : ∀ (k : Nat) (x2 : Int32) (x3 : Int32) (H : Heap) (locs : List Loc) (ls : Array Slot), gHw X τ G H locs → lv_has ls 4 [(0, .ref x0), (1, .int x1), (2, .int x2), (3, .int x3)] → gOk (gIter (fun (q : Int32 × Int32) => b_X6_ordersBorne_4 τ n x0 x1 q.1 q.2 G) k (x2, x3)) K → W p l e rm_X6_ordersBorne s m args below meth c H locs 0 0 Q (F0 m 4 ls []) := by
  intro k
  induction k with
  | zero =>
    intro x2 x3  H locs ls hw hl hok
    exact gOk_iter0 hok
  | succ k hc =>
    intro x2 x3  H locs ls hw hl hok
    exact w_b_X6_ordersBorne_4 fx n x0 x1 x2 x3 h0 hw hl (gOk_iter hok) hc hx0
set_option maxHeartbeats 4000000 in
set_option maxRecDepth 100000 in
theorem c_X6_ordersBorne (l : Launch) (X : gX) (τ : gτ) (n : Nat) (x0 : Nat) (x1 : Int32) (G : gG) (h0 : gK τ x0 6) {r : Int32}  (h : f_X6_ordersBorne τ n x0 x1 G = some r) : gM l X τ yX6_ordersBorne cX6_ordersBorne 4 (some .int) rm_X6_ordersBorne [.ref x0, .int x1] G (some (.int r)) G := by
  refine g_body (by decide +kernel) (Nat.le_of_ble_eq_true rfl) ?_
  intro p e s m args below meth c ls fx hr hw hl
  have fx : gFx X p s m args meth c cX6_ordersBorne 4 RX6 := fx
  have hl : lv_has ls 4 [(0, .ref x0), (1, .int x1)] := hl
  have hok : gOk (f_X6_ordersBorne τ n x0 x1 G) (fun q => q = r) := ⟨_, h, rfl⟩
  unfold f_X6_ordersBorne at hok
  show W p l e rm_X6_ordersBorne s m args below meth c s.heap [] 0 0 (MQ below (gQ X τ (some (.int r)) G) args s 0 0 (gFree X)) _
  refine lv_iconst (v := 0) fx.1 fx.2.1 dX6_ordersBorne_0 (by decide) ?_
  refine lv_istore_n (lv' := [(2, .int (0 : Int32)), (0, .ref x0), (1, .int x1)]) fx.1 fx.2.1 dX6_ordersBorne_1 rfl hl (by decide) rfl (fun ls hl => ?_)
  refine lv_iconst (v := 0) fx.1 fx.2.1 dX6_ordersBorne_2 (by decide) ?_
  refine lv_istore_n (lv' := [(3, .int (0 : Int32)), (2, .int (0 : Int32)), (0, .ref x0), (1, .int x1)]) fx.1 fx.2.1 dX6_ordersBorne_3 rfl hl (by decide) rfl (fun ls hl => ?_)
  refine w_l_X6_ordersBorne_4 fx n x0 x1 h0 G ?_ n (0 : Int32) (0 : Int32)  _ _ _  hw (lv_sub hl [2, 3, 1, 0] rfl) (gOk_bindK hok)
  intro z6  H locs ls hw hl hok
  have hok : gOk (ρ := Int32) (some (z6)) _ := hok
  refine lv_iload_n fx.1 fx.2.1 dX6_ordersBorne_37 rfl (lv_at hl 0 rfl) ?_
  cases gOk_some hok
  exact g_iret fx hw hr dX6_ordersBorne_38
theorem dX6_payOf_0 : decode cX6_payOf 0 = .ok (.iconst 0, 1) := by decide +kernel
theorem dX6_payOf_1 : decode cX6_payOf 1 = .ok (.istore_n 2, 1) := by decide +kernel
theorem dX6_payOf_2 : decode cX6_payOf 2 = .ok (.iconst 0, 1) := by decide +kernel
theorem dX6_payOf_3 : decode cX6_payOf 3 = .ok (.istore_n 3, 1) := by decide +kernel
theorem dX6_payOf_4 : decode cX6_payOf 4 = .ok (.iload_n 3, 1) := by decide +kernel
theorem dX6_payOf_5 : decode cX6_payOf 5 = .ok (.aload_n 0, 1) := by decide +kernel
theorem dX6_payOf_6 : decode cX6_payOf 6 = .ok (.getfield 56, 3) := by decide +kernel
theorem dX6_payOf_9 : decode cX6_payOf 9 = .ok (.if_icmp .ge 30, 3) := by decide +kernel
theorem dX6_payOf_12 : decode cX6_payOf 12 = .ok (.iload_n 1, 1) := by decide +kernel
theorem dX6_payOf_13 : decode cX6_payOf 13 = .ok (.iload_n 3, 1) := by decide +kernel
theorem dX6_payOf_14 : decode cX6_payOf 14 = .ok (.ishr, 1) := by decide +kernel
theorem dX6_payOf_15 : decode cX6_payOf 15 = .ok (.iconst 1, 1) := by decide +kernel
theorem dX6_payOf_16 : decode cX6_payOf 16 = .ok (.iand, 1) := by decide +kernel
theorem dX6_payOf_17 : decode cX6_payOf 17 = .ok (.iconst 1, 1) := by decide +kernel
theorem dX6_payOf_18 : decode cX6_payOf 18 = .ok (.if_icmp .ne 15, 3) := by decide +kernel
theorem dX6_payOf_21 : decode cX6_payOf 21 = .ok (.iload_n 2, 1) := by decide +kernel
theorem dX6_payOf_22 : decode cX6_payOf 22 = .ok (.aload_n 0, 1) := by decide +kernel
theorem dX6_payOf_23 : decode cX6_payOf 23 = .ok (.getfield 25, 3) := by decide +kernel
theorem dX6_payOf_26 : decode cX6_payOf 26 = .ok (.iload_n 3, 1) := by decide +kernel
theorem dX6_payOf_27 : decode cX6_payOf 27 = .ok (.aaload, 1) := by decide +kernel
theorem dX6_payOf_28 : decode cX6_payOf 28 = .ok (.getfield 177, 3) := by decide +kernel
theorem dX6_payOf_31 : decode cX6_payOf 31 = .ok (.iadd, 1) := by decide +kernel
theorem dX6_payOf_32 : decode cX6_payOf 32 = .ok (.istore_n 2, 1) := by decide +kernel
theorem dX6_payOf_33 : decode cX6_payOf 33 = .ok (.iinc 3 1, 3) := by decide +kernel
theorem dX6_payOf_36 : decode cX6_payOf 36 = .ok (.goto (-32), 3) := by decide +kernel
theorem dX6_payOf_39 : decode cX6_payOf 39 = .ok (.iload_n 2, 1) := by decide +kernel
theorem dX6_payOf_40 : decode cX6_payOf 40 = .ok (.ireturn, 1) := by decide +kernel
theorem lf_RX6_177 : gLf RX6 177 4 2 := ⟨(RX4, TX4, 3), rfl, by decide, wA_t (wt1 (List.mem_of_getElem? (i := 239) (by decide +kernel))) (by decide +kernel), rfl⟩
def rm_X6_payOf : Room := { frames := 0, cells := 0, slots := 0, locals := 0 }
def b_X6_payOf_4 (τ : gτ) (n : Nat) (x0 : Nat) (x1 : Int32) (x2 : Int32) (x3 : Int32) (G : gG) : Option ((Int32 × Int32) ⊕ ((Int32))) :=
  if (gi G 6 6 x0) ≤ x3 then (some (.inr x2))
  else (if ((x1 >>> (x3 &&& 31)) &&& (1 : Int32)) = (1 : Int32) then ((gr G 6 2 x0).bind fun a1 =>
  gchk (gIn x3 (gn τ a1)) <| (gq G a1 (Int32.toNatClampNeg x3)).bind fun a2 =>
  gLet (x2 + (gi G 4 2 a2)) fun v3 =>
  gLet (x3 + 1) fun v4 =>
  some (.inl (v3, v4)))
  else (gLet (x3 + 1) fun v5 =>
  some (.inl (x2, v5))))
def l_X6_payOf_4 (τ : gτ) (n : Nat) (x0 : Nat) (x1 : Int32) (x2 : Int32) (x3 : Int32) (G : gG) : Option ((Int32)) :=
  gIter (fun (q : Int32 × Int32) => b_X6_payOf_4 τ n x0 x1 q.1 q.2 G) n (x2, x3)
def f_X6_payOf (τ : gτ) (n : Nat) (x0 : Nat) (x1 : Int32) (G : gG) : Option (Int32) :=
  (l_X6_payOf_4 τ n x0 x1 (0 : Int32) (0 : Int32) G).bind fun q => gLet q fun z6 => 
  some (z6)
set_option maxHeartbeats 4000000 in
set_option maxRecDepth 100000 in
theorem w_b_X6_payOf_4 {X : gX} {τ : gτ} {p : Program} {l : Launch} {e : Env} {s : State} {m : MethodId} {args : Array Value} {below : List Frame} {meth : Method} {c : Code} (fx : gFx X p s m args meth c cX6_payOf 4 RX6) (n : Nat) (x0 : Nat) (x1 : Int32) (x2 : Int32) (x3 : Int32) (h0 : gK τ x0 6) {Q : State → Prop} {K : ((Int32 × Int32) ⊕ ((Int32))) → Prop} {G : gG} {H : Heap} {locs : List Loc} {ls : Array Slot} (hw : gHw X τ G H locs) (hl : lv_has ls 4 [(0, .ref x0), (1, .int x1), (2, .int x2), (3, .int x3)]) (hok : gOk (b_X6_payOf_4 τ n x0 x1 x2 x3 G) K) (hc : ∀ (y2 : Int32) (y3 : Int32) (H : Heap) (locs : List Loc) (ls : Array Slot), gHw X τ G H locs → lv_has ls 4 [(0, .ref x0), (1, .int x1), (2, .int y2), (3, .int y3)] → K (.inl (y2, y3)) → W p l e rm_X6_payOf s m args below meth c H locs 0 0 Q (F0 m 4 ls [])) (hx0 : ∀ (y2 : Int32) (H : Heap) (locs : List Loc) (ls : Array Slot), gHw X τ G H locs → lv_has ls 4 [(2, .int y2)] → K (.inr y2) → W p l e rm_X6_payOf s m args below meth c H locs 0 0 Q (F0 m 39 ls [])) : W p l e rm_X6_payOf s m args below meth c H locs 0 0 Q (F0 m 4 ls []) := by
  unfold b_X6_payOf_4 at hok
  refine lv_iload_n fx.1 fx.2.1 dX6_payOf_4 rfl (lv_at hl 3 rfl) ?_
  refine lv_aload_n fx.1 fx.2.1 dX6_payOf_5 rfl (lv_at hl 0 rfl) ?_
  refine g_geti fx hw h0 lf_RX6_56 rfl dX6_payOf_6 ?_
  refine g_icmp_ge (tgt := 39) fx dX6_payOf_9 (by decide) hok (fun hok => ?_) (fun hok => ?_)
  · exact hx0 x2  _ _ _  hw (lv_sub hl [2] rfl) (gOk_some hok)
  · refine lv_iload_n fx.1 fx.2.1 dX6_payOf_12 rfl (lv_at hl 1 rfl) ?_
    refine lv_iload_n fx.1 fx.2.1 dX6_payOf_13 rfl (lv_at hl 3 rfl) ?_
    refine lv_ishr fx.1 fx.2.1 dX6_payOf_14 ?_
    refine lv_iconst (v := 1) fx.1 fx.2.1 dX6_payOf_15 (by decide) ?_
    refine lv_iand fx.1 fx.2.1 dX6_payOf_16 ?_
    refine lv_iconst (v := 1) fx.1 fx.2.1 dX6_payOf_17 (by decide) ?_
    refine g_icmp_ne (tgt := 33) fx dX6_payOf_18 (by decide) hok (fun hok => ?_) (fun hok => ?_)
    · refine lv_iload_n fx.1 fx.2.1 dX6_payOf_21 rfl (lv_at hl 2 rfl) ?_
      refine lv_aload_n fx.1 fx.2.1 dX6_payOf_22 rfl (lv_at hl 0 rfl) ?_
      refine g_getr fx hw h0 lf_RX6_25 rfl dX6_payOf_23 hok (fun a1 h_a1 hok => ?_)
      refine lv_iload_n fx.1 fx.2.1 dX6_payOf_26 rfl (lv_at hl 3 rfl) ?_
      refine g_aald fx hw 14 2 h_a1 (by decide) (by decide) rfl (κ' := 4) rfl dX6_payOf_27 hok (fun a2 h_a2 hok => ?_)
      refine g_geti fx hw h_a2 lf_RX6_177 rfl dX6_payOf_28 ?_
      refine lv_iadd fx.1 fx.2.1 dX6_payOf_31 ?_
      refine g_leti hok (fun v3 hok => ?_)
      refine lv_istore_n (lv' := [(2, .int v3), (0, .ref x0), (1, .int x1), (3, .int x3)]) fx.1 fx.2.1 dX6_payOf_32 rfl hl (by decide) rfl (fun ls hl => ?_)
      obtain ⟨v4, e_v4, hok⟩ := gOk_let hok
      refine lv_iinc (v := v4) (lv' := [(3, .int v4), (2, .int v3), (0, .ref x0), (1, .int x1)]) fx.1 fx.2.1 dX6_payOf_33 hl (k := 3) rfl (by rw [e_v4]; rfl) (by decide) rfl (fun ls hl => ?_)
      refine lv_goto (tgt := 4) fx.1 fx.2.1 dX6_payOf_36 (by decide) ?_
      exact hc v3 v4  _ _ _  hw (lv_sub hl [2, 3, 1, 0] rfl) (gOk_some hok)
    · obtain ⟨v5, e_v5, hok⟩ := gOk_let hok
      refine lv_iinc (v := v5) (lv' := [(3, .int v5), (0, .ref x0), (1, .int x1), (2, .int x2)]) fx.1 fx.2.1 dX6_payOf_33 hl (k := 3) rfl (by rw [e_v5]; rfl) (by decide) rfl (fun ls hl => ?_)
      refine lv_goto (tgt := 4) fx.1 fx.2.1 dX6_payOf_36 (by decide) ?_
      exact hc x2 v5  _ _ _  hw (lv_sub hl [1, 2, 3, 0] rfl) (gOk_some hok)
theorem w_l_X6_payOf_4 {X : gX} {τ : gτ} {p : Program} {l : Launch} {e : Env} {s : State} {m : MethodId} {args : Array Value} {below : List Frame} {meth : Method} {c : Code} (fx : gFx X p s m args meth c cX6_payOf 4 RX6) (n : Nat) (x0 : Nat) (x1 : Int32) (h0 : gK τ x0 6) (G : gG) {Q : State → Prop} {K : ((Int32)) → Prop} (hx0 : ∀ (y2 : Int32) (H : Heap) (locs : List Loc) (ls : Array Slot), gHw X τ G H locs → lv_has ls 4 [(2, .int y2)] → K y2 → W p l e rm_X6_payOf s m args below meth c H locs 0 0 Q (F0 m 39 ls [])) : ∀ (k : Nat) (x2 : Int32) (x3 : Int32) (H : Heap) (locs : List Loc) (ls : Array Slot), gHw X τ G H locs → lv_has ls 4 [(0, .ref x0), (1, .int x1), (2, .int x2), (3, .int x3)] → gOk (gIter (fun (q : Int32 × Int32) => b_X6_payOf_4 τ n x0 x1 q.1 q.2 G) k (x2, x3)) K → W p l e rm_X6_payOf s m args below meth c H locs 0 0 Q (F0 m 4 ls []) := by
  intro k
  induction k with
  | zero =>
    intro x2 x3  H locs ls hw hl hok
    exact gOk_iter0 hok
  | succ k hc =>
    intro x2 x3  H locs ls hw hl hok
    exact w_b_X6_payOf_4 fx n x0 x1 x2 x3 h0 hw hl (gOk_iter hok) hc hx0
set_option maxHeartbeats 4000000 in
set_option maxRecDepth 100000 in
theorem c_X6_payOf (l : Launch) (X : gX) (τ : gτ) (n : Nat) (x0 : Nat) (x1 : Int32) (G : gG) (h0 : gK τ x0 6) {r : Int32}  (h : f_X6_payOf τ n x0 x1 G = some r) : gM l X τ yX6_payOf cX6_payOf 4 (some .int) rm_X6_payOf [.ref x0, .int x1] G (some (.int r)) G := by
  refine g_body (by decide +kernel) (Nat.le_of_ble_eq_true rfl) ?_
  intro p e s m args below meth c ls fx hr hw hl
  have fx : gFx X p s m args meth c cX6_payOf 4 RX6 := fx
  have hl : lv_has ls 4 [(0, .ref x0), (1, .int x1)] := hl
  have hok : gOk (f_X6_payOf τ n x0 x1 G) (fun q => q = r) := ⟨_, h, rfl⟩
  unfold f_X6_payOf at hok
  show W p l e rm_X6_payOf s m args below meth c s.heap [] 0 0 (MQ below (gQ X τ (some (.int r)) G) args s 0 0 (gFree X)) _
  refine lv_iconst (v := 0) fx.1 fx.2.1 dX6_payOf_0 (by decide) ?_
  refine lv_istore_n (lv' := [(2, .int (0 : Int32)), (0, .ref x0), (1, .int x1)]) fx.1 fx.2.1 dX6_payOf_1 rfl hl (by decide) rfl (fun ls hl => ?_)
  refine lv_iconst (v := 0) fx.1 fx.2.1 dX6_payOf_2 (by decide) ?_
  refine lv_istore_n (lv' := [(3, .int (0 : Int32)), (2, .int (0 : Int32)), (0, .ref x0), (1, .int x1)]) fx.1 fx.2.1 dX6_payOf_3 rfl hl (by decide) rfl (fun ls hl => ?_)
  refine w_l_X6_payOf_4 fx n x0 x1 h0 G ?_ n (0 : Int32) (0 : Int32)  _ _ _  hw (lv_sub hl [2, 3, 1, 0] rfl) (gOk_bindK hok)
  intro z6  H locs ls hw hl hok
  have hok : gOk (ρ := Int32) (some (z6)) _ := hok
  refine lv_iload_n fx.1 fx.2.1 dX6_payOf_39 rfl (lv_at hl 0 rfl) ?_
  cases gOk_some hok
  exact g_iret fx hw hr dX6_payOf_40
theorem dX6_fathomsOf_0 : decode cX6_fathomsOf 0 = .ok (.iconst 0, 1) := by decide +kernel
theorem dX6_fathomsOf_1 : decode cX6_fathomsOf 1 = .ok (.istore_n 2, 1) := by decide +kernel
theorem dX6_fathomsOf_2 : decode cX6_fathomsOf 2 = .ok (.iconst 0, 1) := by decide +kernel
theorem dX6_fathomsOf_3 : decode cX6_fathomsOf 3 = .ok (.istore_n 3, 1) := by decide +kernel
theorem dX6_fathomsOf_4 : decode cX6_fathomsOf 4 = .ok (.iload_n 3, 1) := by decide +kernel
theorem dX6_fathomsOf_5 : decode cX6_fathomsOf 5 = .ok (.aload_n 0, 1) := by decide +kernel
theorem dX6_fathomsOf_6 : decode cX6_fathomsOf 6 = .ok (.getfield 56, 3) := by decide +kernel
theorem dX6_fathomsOf_9 : decode cX6_fathomsOf 9 = .ok (.if_icmp .ge 30, 3) := by decide +kernel
theorem dX6_fathomsOf_12 : decode cX6_fathomsOf 12 = .ok (.iload_n 1, 1) := by decide +kernel
theorem dX6_fathomsOf_13 : decode cX6_fathomsOf 13 = .ok (.iload_n 3, 1) := by decide +kernel
theorem dX6_fathomsOf_14 : decode cX6_fathomsOf 14 = .ok (.ishr, 1) := by decide +kernel
theorem dX6_fathomsOf_15 : decode cX6_fathomsOf 15 = .ok (.iconst 1, 1) := by decide +kernel
theorem dX6_fathomsOf_16 : decode cX6_fathomsOf 16 = .ok (.iand, 1) := by decide +kernel
theorem dX6_fathomsOf_17 : decode cX6_fathomsOf 17 = .ok (.iconst 1, 1) := by decide +kernel
theorem dX6_fathomsOf_18 : decode cX6_fathomsOf 18 = .ok (.if_icmp .ne 15, 3) := by decide +kernel
theorem dX6_fathomsOf_21 : decode cX6_fathomsOf 21 = .ok (.iload_n 2, 1) := by decide +kernel
theorem dX6_fathomsOf_22 : decode cX6_fathomsOf 22 = .ok (.aload_n 0, 1) := by decide +kernel
theorem dX6_fathomsOf_23 : decode cX6_fathomsOf 23 = .ok (.getfield 25, 3) := by decide +kernel
theorem dX6_fathomsOf_26 : decode cX6_fathomsOf 26 = .ok (.iload_n 3, 1) := by decide +kernel
theorem dX6_fathomsOf_27 : decode cX6_fathomsOf 27 = .ok (.aaload, 1) := by decide +kernel
theorem dX6_fathomsOf_28 : decode cX6_fathomsOf 28 = .ok (.getfield 176, 3) := by decide +kernel
theorem dX6_fathomsOf_31 : decode cX6_fathomsOf 31 = .ok (.iadd, 1) := by decide +kernel
theorem dX6_fathomsOf_32 : decode cX6_fathomsOf 32 = .ok (.istore_n 2, 1) := by decide +kernel
theorem dX6_fathomsOf_33 : decode cX6_fathomsOf 33 = .ok (.iinc 3 1, 3) := by decide +kernel
theorem dX6_fathomsOf_36 : decode cX6_fathomsOf 36 = .ok (.goto (-32), 3) := by decide +kernel
theorem dX6_fathomsOf_39 : decode cX6_fathomsOf 39 = .ok (.iload_n 2, 1) := by decide +kernel
theorem dX6_fathomsOf_40 : decode cX6_fathomsOf 40 = .ok (.ireturn, 1) := by decide +kernel
theorem lf_RX6_176 : gLf RX6 176 4 1 := ⟨(RX4, TX4, 3), rfl, by decide, wA_t (wt1 (List.mem_of_getElem? (i := 236) (by decide +kernel))) (by decide +kernel), rfl⟩
def rm_X6_fathomsOf : Room := { frames := 0, cells := 0, slots := 0, locals := 0 }
def b_X6_fathomsOf_4 (τ : gτ) (n : Nat) (x0 : Nat) (x1 : Int32) (x2 : Int32) (x3 : Int32) (G : gG) : Option ((Int32 × Int32) ⊕ ((Int32))) :=
  if (gi G 6 6 x0) ≤ x3 then (some (.inr x2))
  else (if ((x1 >>> (x3 &&& 31)) &&& (1 : Int32)) = (1 : Int32) then ((gr G 6 2 x0).bind fun a1 =>
  gchk (gIn x3 (gn τ a1)) <| (gq G a1 (Int32.toNatClampNeg x3)).bind fun a2 =>
  gLet (x2 + (gi G 4 1 a2)) fun v3 =>
  gLet (x3 + 1) fun v4 =>
  some (.inl (v3, v4)))
  else (gLet (x3 + 1) fun v5 =>
  some (.inl (x2, v5))))
def l_X6_fathomsOf_4 (τ : gτ) (n : Nat) (x0 : Nat) (x1 : Int32) (x2 : Int32) (x3 : Int32) (G : gG) : Option ((Int32)) :=
  gIter (fun (q : Int32 × Int32) => b_X6_fathomsOf_4 τ n x0 x1 q.1 q.2 G) n (x2, x3)
def f_X6_fathomsOf (τ : gτ) (n : Nat) (x0 : Nat) (x1 : Int32) (G : gG) : Option (Int32) :=
  (l_X6_fathomsOf_4 τ n x0 x1 (0 : Int32) (0 : Int32) G).bind fun q => gLet q fun z6 => 
  some (z6)
set_option maxHeartbeats 4000000 in
set_option maxRecDepth 100000 in
theorem w_b_X6_fathomsOf_4 {X : gX} {τ : gτ} {p : Program} {l : Launch} {e : Env} {s : State} {m : MethodId} {args : Array Value} {below : List Frame} {meth : Method} {c : Code} (fx : gFx X p s m args meth c cX6_fathomsOf 4 RX6) (n : Nat) (x0 : Nat) (x1 : Int32) (x2 : Int32) (x3 : Int32) (h0 : gK τ x0 6) {Q : State → Prop} {K : ((Int32 × Int32) ⊕ ((Int32))) → Prop} {G : gG} {H : Heap} {locs : List Loc} {ls : Array Slot} (hw : gHw X τ G H locs) (hl : lv_has ls 4 [(0, .ref x0), (1, .int x1), (2, .int x2), (3, .int x3)]) (hok : gOk (b_X6_fathomsOf_4 τ n x0 x1 x2 x3 G) K) (hc : ∀ (y2 : Int32) (y3 : Int32) (H : Heap) (locs : List Loc) (ls : Array Slot), gHw X τ G H locs → lv_has ls 4 [(0, .ref x0), (1, .int x1), (2, .int y2), (3, .int y3)] → K (.inl (y2, y3)) → W p l e rm_X6_fathomsOf s m args below meth c H locs 0 0 Q (F0 m 4 ls [])) (hx0 : ∀ (y2 : Int32) (H : Heap) (locs : List Loc) (ls : Array Slot), gHw X τ G H locs → lv_has ls 4 [(2, .int y2)] → K (.inr y2) → W p l e rm_X6_fathomsOf s m args below meth c H locs 0 0 Q (F0 m 39 ls [])) : W p l e rm_X6_fathomsOf s m args below meth c H locs 0 0 Q (F0 m 4 ls []) := by
  unfold b_X6_fathomsOf_4 at hok
  refine lv_iload_n fx.1 fx.2.1 dX6_fathomsOf_4 rfl (lv_at hl 3 rfl) ?_
  refine lv_aload_n fx.1 fx.2.1 dX6_fathomsOf_5 rfl (lv_at hl 0 rfl) ?_
  refine g_geti fx hw h0 lf_RX6_56 rfl dX6_fathomsOf_6 ?_
  refine g_icmp_ge (tgt := 39) fx dX6_fathomsOf_9 (by decide) hok (fun hok => ?_) (fun hok => ?_)
  · exact hx0 x2  _ _ _  hw (lv_sub hl [2] rfl) (gOk_some hok)
  · refine lv_iload_n fx.1 fx.2.1 dX6_fathomsOf_12 rfl (lv_at hl 1 rfl) ?_
    refine lv_iload_n fx.1 fx.2.1 dX6_fathomsOf_13 rfl (lv_at hl 3 rfl) ?_
    refine lv_ishr fx.1 fx.2.1 dX6_fathomsOf_14 ?_
    refine lv_iconst (v := 1) fx.1 fx.2.1 dX6_fathomsOf_15 (by decide) ?_
    refine lv_iand fx.1 fx.2.1 dX6_fathomsOf_16 ?_
    refine lv_iconst (v := 1) fx.1 fx.2.1 dX6_fathomsOf_17 (by decide) ?_
    refine g_icmp_ne (tgt := 33) fx dX6_fathomsOf_18 (by decide) hok (fun hok => ?_) (fun hok => ?_)
    · refine lv_iload_n fx.1 fx.2.1 dX6_fathomsOf_21 rfl (lv_at hl 2 rfl) ?_
      refine lv_aload_n fx.1 fx.2.1 dX6_fathomsOf_22 rfl (lv_at hl 0 rfl) ?_
      refine g_getr fx hw h0 lf_RX6_25 rfl dX6_fathomsOf_23 hok (fun a1 h_a1 hok => ?_)
      refine lv_iload_n fx.1 fx.2.1 dX6_fathomsOf_26 rfl (lv_at hl 3 rfl) ?_
      refine g_aald fx hw 14 2 h_a1 (by decide) (by decide) rfl (κ' := 4) rfl dX6_fathomsOf_27 hok (fun a2 h_a2 hok => ?_)
      refine g_geti fx hw h_a2 lf_RX6_176 rfl dX6_fathomsOf_28 ?_
      refine lv_iadd fx.1 fx.2.1 dX6_fathomsOf_31 ?_
      refine g_leti hok (fun v3 hok => ?_)
      refine lv_istore_n (lv' := [(2, .int v3), (0, .ref x0), (1, .int x1), (3, .int x3)]) fx.1 fx.2.1 dX6_fathomsOf_32 rfl hl (by decide) rfl (fun ls hl => ?_)
      obtain ⟨v4, e_v4, hok⟩ := gOk_let hok
      refine lv_iinc (v := v4) (lv' := [(3, .int v4), (2, .int v3), (0, .ref x0), (1, .int x1)]) fx.1 fx.2.1 dX6_fathomsOf_33 hl (k := 3) rfl (by rw [e_v4]; rfl) (by decide) rfl (fun ls hl => ?_)
      refine lv_goto (tgt := 4) fx.1 fx.2.1 dX6_fathomsOf_36 (by decide) ?_
      exact hc v3 v4  _ _ _  hw (lv_sub hl [2, 3, 1, 0] rfl) (gOk_some hok)
    · obtain ⟨v5, e_v5, hok⟩ := gOk_let hok
      refine lv_iinc (v := v5) (lv' := [(3, .int v5), (0, .ref x0), (1, .int x1), (2, .int x2)]) fx.1 fx.2.1 dX6_fathomsOf_33 hl (k := 3) rfl (by rw [e_v5]; rfl) (by decide) rfl (fun ls hl => ?_)
      refine lv_goto (tgt := 4) fx.1 fx.2.1 dX6_fathomsOf_36 (by decide) ?_
      exact hc x2 v5  _ _ _  hw (lv_sub hl [1, 2, 3, 0] rfl) (gOk_some hok)
theorem w_l_X6_fathomsOf_4 {X : gX} {τ : gτ} {p : Program} {l : Launch} {e : Env} {s : State} {m : MethodId} {args : Array Value} {below : List Frame} {meth : Method} {c : Code} (fx : gFx X p s m args meth c cX6_fathomsOf 4 RX6) (n : Nat) (x0 : Nat) (x1 : Int32) (h0 : gK τ x0 6) (G : gG) {Q : State → Prop} {K : ((Int32)) → Prop} (hx0 : ∀ (y2 : Int32) (H : Heap) (locs : List Loc) (ls : Array Slot), gHw X τ G H locs → lv_has ls 4 [(2, .int y2)] → K y2 → W p l e rm_X6_fathomsOf s m args below meth c H locs 0 0 Q (F0 m 39 ls [])) : ∀ (k : Nat) (x2 : Int32) (x3 : Int32) (H : Heap) (locs : List Loc) (ls : Array Slot), gHw X τ G H locs → lv_has ls 4 [(0, .ref x0), (1, .int x1), (2, .int x2), (3, .int x3)] → gOk (gIter (fun (q : Int32 × Int32) => b_X6_fathomsOf_4 τ n x0 x1 q.1 q.2 G) k (x2, x3)) K → W p l e rm_X6_fathomsOf s m args below meth c H locs 0 0 Q (F0 m 4 ls []) := by
  intro k
  induction k with
  | zero =>
    intro x2 x3  H locs ls hw hl hok
    exact gOk_iter0 hok
  | succ k hc =>
    intro x2 x3  H locs ls hw hl hok
    exact w_b_X6_fathomsOf_4 fx n x0 x1 x2 x3 h0 hw hl (gOk_iter hok) hc hx0
set_option maxHeartbeats 4000000 in
set_option maxRecDepth 100000 in
theorem c_X6_fathomsOf (l : Launch) (X : gX) (τ : gτ) (n : Nat) (x0 : Nat) (x1 : Int32) (G : gG) (h0 : gK τ x0 6) {r : Int32}  (h : f_X6_fathomsOf τ n x0 x1 G = some r) : gM l X τ yX6_fathomsOf cX6_fathomsOf 4 (some .int) rm_X6_fathomsOf [.ref x0, .int x1] G (some (.int r)) G := by
  refine g_body (by decide +kernel) (Nat.le_of_ble_eq_true rfl) ?_
  intro p e s m args below meth c ls fx hr hw hl
  have fx : gFx X p s m args meth c cX6_fathomsOf 4 RX6 := fx
  have hl : lv_has ls 4 [(0, .ref x0), (1, .int x1)] := hl
  have hok : gOk (f_X6_fathomsOf τ n x0 x1 G) (fun q => q = r) := ⟨_, h, rfl⟩
  unfold f_X6_fathomsOf at hok
  show W p l e rm_X6_fathomsOf s m args below meth c s.heap [] 0 0 (MQ below (gQ X τ (some (.int r)) G) args s 0 0 (gFree X)) _
  refine lv_iconst (v := 0) fx.1 fx.2.1 dX6_fathomsOf_0 (by decide) ?_
  refine lv_istore_n (lv' := [(2, .int (0 : Int32)), (0, .ref x0), (1, .int x1)]) fx.1 fx.2.1 dX6_fathomsOf_1 rfl hl (by decide) rfl (fun ls hl => ?_)
  refine lv_iconst (v := 0) fx.1 fx.2.1 dX6_fathomsOf_2 (by decide) ?_
  refine lv_istore_n (lv' := [(3, .int (0 : Int32)), (2, .int (0 : Int32)), (0, .ref x0), (1, .int x1)]) fx.1 fx.2.1 dX6_fathomsOf_3 rfl hl (by decide) rfl (fun ls hl => ?_)
  refine w_l_X6_fathomsOf_4 fx n x0 x1 h0 G ?_ n (0 : Int32) (0 : Int32)  _ _ _  hw (lv_sub hl [2, 3, 1, 0] rfl) (gOk_bindK hok)
  intro z6  H locs ls hw hl hok
  have hok : gOk (ρ := Int32) (some (z6)) _ := hok
  refine lv_iload_n fx.1 fx.2.1 dX6_fathomsOf_39 rfl (lv_at hl 0 rfl) ?_
  cases gOk_some hok
  exact g_iret fx hw hr dX6_fathomsOf_40
theorem dX6_draw_0 : decode cX6_draw 0 = .ok (.aload_n 0, 1) := by decide +kernel
theorem dX6_draw_1 : decode cX6_draw 1 = .ok (.ldc 194, 2) := by decide +kernel
theorem dX6_draw_3 : decode cX6_draw 3 = .ok (.aload_n 0, 1) := by decide +kernel
theorem dX6_draw_4 : decode cX6_draw 4 = .ok (.getfield 36, 3) := by decide +kernel
theorem dX6_draw_7 : decode cX6_draw 7 = .ok (.imul, 1) := by decide +kernel
theorem dX6_draw_8 : decode cX6_draw 8 = .ok (.sipush 12345, 3) := by decide +kernel
theorem dX6_draw_11 : decode cX6_draw 11 = .ok (.iadd, 1) := by decide +kernel
theorem dX6_draw_12 : decode cX6_draw 12 = .ok (.putfield 36, 3) := by decide +kernel
theorem dX6_draw_15 : decode cX6_draw 15 = .ok (.aload_n 0, 1) := by decide +kernel
theorem dX6_draw_16 : decode cX6_draw 16 = .ok (.getfield 36, 3) := by decide +kernel
theorem dX6_draw_19 : decode cX6_draw 19 = .ok (.bipush 16, 2) := by decide +kernel
theorem dX6_draw_21 : decode cX6_draw 21 = .ok (.iushr, 1) := by decide +kernel
theorem dX6_draw_22 : decode cX6_draw 22 = .ok (.sipush 32767, 3) := by decide +kernel
theorem dX6_draw_25 : decode cX6_draw 25 = .ok (.iand, 1) := by decide +kernel
theorem dX6_draw_26 : decode cX6_draw 26 = .ok (.ireturn, 1) := by decide +kernel
theorem lc_RX6_194 : Cond.constant RX6 194 1103515245 ∈ wA := wA_t (wt6 (List.mem_of_getElem? (i := 1) (by decide +kernel))) (by decide +kernel)
def rm_X6_draw : Room := { frames := 0, cells := 0, slots := 0, locals := 0 }
def f_X6_draw (x0 : Nat) (G : gG) : Option (Int32 × gG) :=
  gLet (gsi G 6 11 x0 (((1103515245 : Int32) * (gi G 6 11 x0)) + (12345 : Int32))) fun G1 =>
  some (((Int32.toUInt32 (gi G1 6 11 x0) >>> (Int32.toUInt32 (16 : Int32) &&& Int32.toUInt32 31)).toInt32) &&& (32767 : Int32), G1)
set_option maxHeartbeats 4000000 in
set_option maxRecDepth 100000 in
theorem c_X6_draw (l : Launch) (X : gX) (τ : gτ) (x0 : Nat) (G : gG) (h0 : gK τ x0 6) {r : Int32} {G' : gG} (h : f_X6_draw x0 G = some (r, G')) : gM l X τ yX6_draw cX6_draw 1 (some .int) rm_X6_draw [.ref x0] G (some (.int r)) G' := by
  refine g_body (by decide +kernel) (Nat.le_of_ble_eq_true rfl) ?_
  intro p e s m args below meth c ls fx hr hw hl
  have fx : gFx X p s m args meth c cX6_draw 1 RX6 := fx
  have hl : lv_has ls 1 [(0, .ref x0)] := hl
  have hok : gOk (f_X6_draw x0 G) (fun q => q = (r, G')) := ⟨_, h, rfl⟩
  unfold f_X6_draw at hok
  show W p l e rm_X6_draw s m args below meth c s.heap [] 0 0 (MQ below (gQ X τ (some (.int r)) G') args s 0 0 (gFree X)) _
  refine lv_aload_n fx.1 fx.2.1 dX6_draw_0 rfl (lv_at hl 0 rfl) ?_
  refine lv_ldc fx.1 fx.2.1 fx.2.2.2.1 (fx.2.2.2.2.1 _ lc_RX6_194) dX6_draw_1 ?_
  refine lv_aload_n fx.1 fx.2.1 dX6_draw_3 rfl (lv_at hl 0 rfl) ?_
  refine g_geti fx hw h0 lf_RX6_36 rfl dX6_draw_4 ?_
  refine lv_imul fx.1 fx.2.1 dX6_draw_7 ?_
  refine lv_sipush (v := 12345) fx.1 fx.2.1 dX6_draw_8 (by decide) ?_
  refine lv_iadd fx.1 fx.2.1 dX6_draw_11 ?_
  refine g_puti fx hw h0 lp_RX6_36 rfl rfl dX6_draw_12 hok (fun G1 H locs hw hok => ?_)
  refine lv_aload_n fx.1 fx.2.1 dX6_draw_15 rfl (lv_at hl 0 rfl) ?_
  refine g_geti fx hw h0 lf_RX6_36 rfl dX6_draw_16 ?_
  refine lv_bipush (v := 16) fx.1 fx.2.1 dX6_draw_19 (by decide) ?_
  refine lv_iushr fx.1 fx.2.1 dX6_draw_21 rfl ?_
  refine lv_sipush (v := 32767) fx.1 fx.2.1 dX6_draw_22 (by decide) ?_
  refine lv_iand fx.1 fx.2.1 dX6_draw_25 ?_
  cases gOk_some hok
  exact g_iret fx hw hr dX6_draw_26
theorem dX6_snap_0 : decode cX6_snap 0 = .ok (.aload_n 0, 1) := by decide +kernel
theorem dX6_snap_1 : decode cX6_snap 1 = .ok (.getfield 32, 3) := by decide +kernel
theorem dX6_snap_4 : decode cX6_snap 4 = .ok (.aload_n 0, 1) := by decide +kernel
theorem dX6_snap_5 : decode cX6_snap 5 = .ok (.getfield 74, 3) := by decide +kernel
theorem dX6_snap_8 : decode cX6_snap 8 = .ok (.aload_n 1, 1) := by decide +kernel
theorem dX6_snap_9 : decode cX6_snap 9 = .ok (.invokevirtual 205, 3) := by decide +kernel
theorem dX6_snap_12 : decode cX6_snap 12 = .ok (.aload_n 0, 1) := by decide +kernel
theorem dX6_snap_13 : decode cX6_snap 13 = .ok (.dup, 1) := by decide +kernel
theorem dX6_snap_14 : decode cX6_snap 14 = .ok (.getfield 80, 3) := by decide +kernel
theorem dX6_snap_17 : decode cX6_snap 17 = .ok (.aload_n 1, 1) := by decide +kernel
theorem dX6_snap_18 : decode cX6_snap 18 = .ok (.getfield 123, 3) := by decide +kernel
theorem dX6_snap_21 : decode cX6_snap 21 = .ok (.iadd, 1) := by decide +kernel
theorem dX6_snap_22 : decode cX6_snap 22 = .ok (.putfield 80, 3) := by decide +kernel
theorem dX6_snap_25 : decode cX6_snap 25 = .ok (.aload_n 0, 1) := by decide +kernel
theorem dX6_snap_26 : decode cX6_snap 26 = .ok (.dup, 1) := by decide +kernel
theorem dX6_snap_27 : decode cX6_snap 27 = .ok (.getfield 83, 3) := by decide +kernel
theorem dX6_snap_30 : decode cX6_snap 30 = .ok (.iconst 1, 1) := by decide +kernel
theorem dX6_snap_31 : decode cX6_snap 31 = .ok (.iadd, 1) := by decide +kernel
theorem dX6_snap_32 : decode cX6_snap 32 = .ok (.putfield 83, 3) := by decide +kernel
theorem dX6_snap_35 : decode cX6_snap 35 = .ok (.aload_n 1, 1) := by decide +kernel
theorem dX6_snap_36 : decode cX6_snap 36 = .ok (.iconst 0, 1) := by decide +kernel
theorem dX6_snap_37 : decode cX6_snap 37 = .ok (.putfield 123, 3) := by decide +kernel
theorem dX6_snap_40 : decode cX6_snap 40 = .ok (.aload_n 1, 1) := by decide +kernel
theorem dX6_snap_41 : decode cX6_snap 41 = .ok (.iconst 1, 1) := by decide +kernel
theorem dX6_snap_42 : decode cX6_snap 42 = .ok (.putfield 135, 3) := by decide +kernel
theorem dX6_snap_45 : decode cX6_snap 45 = .ok (.return_, 1) := by decide +kernel
theorem lv_RX6_205 : gLv RX6 205 RX0 yX0_add cX0_add 4 none 2 := gLv_of (wA_t (wt6 (List.mem_of_getElem? (i := 11) (by decide +kernel))) (by decide +kernel)) (wA_t (wt6 (List.mem_of_getElem? (i := 12) (by decide +kernel))) (by decide +kernel)) (wA_t (wt6 (List.mem_of_getElem? (i := 13) (by decide +kernel))) (by decide +kernel)) (wA_t (wt1 (List.mem_of_getElem? (i := 7) (by decide +kernel))) (by decide +kernel)) (wA_t (wt6 (List.mem_of_getElem? (i := 14) (by decide +kernel))) (by decide +kernel)) ⟨rfl, by decide +kernel, by decide +kernel, by decide +kernel⟩
theorem lp_RX6_135 : gLp RX6 135 5 9 := ⟨(RX5, TX5, 10), rfl, by decide, wA_t (wt1 (List.mem_of_getElem? (i := 204) (by decide +kernel))) (by decide +kernel), rfl, rfl⟩
def rm_X6_snap : Room := { frames := 2, cells := 0, slots := 0, locals := 44 }
def f_X6_snap (τ : gτ) (x0 : Nat) (x1 : Nat) (G : gG) : Option (gG) :=
  (gr G 6 3 x0).bind fun a1 =>
  (f_X0_add τ a1 (gi G 6 10 x0) x1 G).bind fun G2 =>
  gLet (gsi G2 6 13 x0 ((gi G2 6 13 x0) + (gi G2 5 7 x1))) fun G3 =>
  gLet (gsi G3 6 14 x0 ((gi G3 6 14 x0) + (1 : Int32))) fun G4 =>
  gLet (gsi G4 5 7 x1 (0 : Int32)) fun G5 =>
  gLet (gsi G5 5 9 x1 (1 : Int32)) fun G6 =>
  some G6
set_option maxHeartbeats 4000000 in
set_option maxRecDepth 100000 in
theorem c_X6_snap (l : Launch) (X : gX) (τ : gτ) (x0 : Nat) (x1 : Nat) (G : gG) (h0 : gK τ x0 6) (h1 : gK τ x1 5) {G' : gG} (h : f_X6_snap τ x0 x1 G = some G') : gM l X τ yX6_snap cX6_snap 2 none rm_X6_snap [.ref x0, .ref x1] G none G' := by
  refine g_body (by decide +kernel) (Nat.le_of_ble_eq_true rfl) ?_
  intro p e s m args below meth c ls fx hr hw hl
  have fx : gFx X p s m args meth c cX6_snap 2 RX6 := fx
  have hl : lv_has ls 2 [(0, .ref x0), (1, .ref x1)] := hl
  have hok : gOk (f_X6_snap τ x0 x1 G) (fun q => q = G') := ⟨_, h, rfl⟩
  unfold f_X6_snap at hok
  show W p l e rm_X6_snap s m args below meth c s.heap [] 0 0 (MQ below (gQ X τ none G') args s 0 0 (gFree X)) _
  refine lv_aload_n fx.1 fx.2.1 dX6_snap_0 rfl (lv_at hl 0 rfl) ?_
  refine g_getr fx hw h0 lf_RX6_32 rfl dX6_snap_1 hok (fun a1 h_a1 hok => ?_)
  refine lv_aload_n fx.1 fx.2.1 dX6_snap_4 rfl (lv_at hl 0 rfl) ?_
  refine g_geti fx hw h0 lf_RX6_74 rfl dX6_snap_5 ?_
  refine lv_aload_n fx.1 fx.2.1 dX6_snap_8 rfl (lv_at hl 1 rfl) ?_
  obtain ⟨G2, hf, hok⟩ := gOk_bind hok
  refine g_callV0 (κ := 0) fx hw (c_X0_add l X τ a1 (gi G 6 10 x0) x1 G h_a1 h1 hf) lv_RX6_205 ⟨rfl, rfl⟩ rfl rfl h_a1 rfl hl.1 rfl ⟨Nat.le_of_ble_eq_true rfl, Nat.le_of_ble_eq_true rfl⟩ (Nat.le_of_ble_eq_true rfl) ⟨Nat.le_of_ble_eq_true rfl, Nat.le_of_ble_eq_true rfl⟩ dX6_snap_9 (fun H locs hw => ?_)
  refine lv_aload_n fx.1 fx.2.1 dX6_snap_12 rfl (lv_at hl 0 rfl) ?_
  refine lv_dup fx.1 fx.2.1 dX6_snap_13 rfl ?_
  refine g_geti fx hw h0 lf_RX6_80 rfl dX6_snap_14 ?_
  refine lv_aload_n fx.1 fx.2.1 dX6_snap_17 rfl (lv_at hl 1 rfl) ?_
  refine g_geti fx hw h1 lf_RX6_123 rfl dX6_snap_18 ?_
  refine lv_iadd fx.1 fx.2.1 dX6_snap_21 ?_
  refine g_puti fx hw h0 lp_RX6_80 rfl rfl dX6_snap_22 hok (fun G3 H locs hw hok => ?_)
  refine lv_aload_n fx.1 fx.2.1 dX6_snap_25 rfl (lv_at hl 0 rfl) ?_
  refine lv_dup fx.1 fx.2.1 dX6_snap_26 rfl ?_
  refine g_geti fx hw h0 lf_RX6_83 rfl dX6_snap_27 ?_
  refine lv_iconst (v := 1) fx.1 fx.2.1 dX6_snap_30 (by decide) ?_
  refine lv_iadd fx.1 fx.2.1 dX6_snap_31 ?_
  refine g_puti fx hw h0 lp_RX6_83 rfl rfl dX6_snap_32 hok (fun G4 H locs hw hok => ?_)
  refine lv_aload_n fx.1 fx.2.1 dX6_snap_35 rfl (lv_at hl 1 rfl) ?_
  refine lv_iconst (v := 0) fx.1 fx.2.1 dX6_snap_36 (by decide) ?_
  refine g_puti fx hw h1 lp_RX6_123 rfl rfl dX6_snap_37 hok (fun G5 H locs hw hok => ?_)
  refine lv_aload_n fx.1 fx.2.1 dX6_snap_40 rfl (lv_at hl 1 rfl) ?_
  refine lv_iconst (v := 1) fx.1 fx.2.1 dX6_snap_41 (by decide) ?_
  refine g_putz fx hw h1 lp_RX6_135 rfl rfl (by decide) dX6_snap_42 hok (fun G6 H locs hw hok => ?_)
  cases gOk_some hok
  exact g_vret fx hw hr dX6_snap_45
theorem dX6_fray_0 : decode cX6_fray 0 = .ok (.iload_n 2, 1) := by decide +kernel
theorem dX6_fray_1 : decode cX6_fray 1 = .ok (.ifCond .eq 12, 3) := by decide +kernel
theorem dX6_fray_4 : decode cX6_fray 4 = .ok (.aload_n 1, 1) := by decide +kernel
theorem dX6_fray_5 : decode cX6_fray 5 = .ok (.getfield 123, 3) := by decide +kernel
theorem dX6_fray_8 : decode cX6_fray 8 = .ok (.iconst 2, 1) := by decide +kernel
theorem dX6_fray_9 : decode cX6_fray 9 = .ok (.imul, 1) := by decide +kernel
theorem dX6_fray_10 : decode cX6_fray 10 = .ok (.goto 7, 3) := by decide +kernel
theorem dX6_fray_13 : decode cX6_fray 13 = .ok (.aload_n 1, 1) := by decide +kernel
theorem dX6_fray_14 : decode cX6_fray 14 = .ok (.getfield 123, 3) := by decide +kernel
theorem dX6_fray_17 : decode cX6_fray 17 = .ok (.istore 4, 2) := by decide +kernel
theorem dX6_fray_19 : decode cX6_fray 19 = .ok (.iload 4, 2) := by decide +kernel
theorem dX6_fray_21 : decode cX6_fray 21 = .ok (.ifCond .le 20, 3) := by decide +kernel
theorem dX6_fray_24 : decode cX6_fray 24 = .ok (.iload 4, 2) := by decide +kernel
theorem dX6_fray_26 : decode cX6_fray 26 = .ok (.aload_n 0, 1) := by decide +kernel
theorem dX6_fray_27 : decode cX6_fray 27 = .ok (.aload_n 1, 1) := by decide +kernel
theorem dX6_fray_28 : decode cX6_fray 28 = .ok (.aload_n 3, 1) := by decide +kernel
theorem dX6_fray_29 : decode cX6_fray 29 = .ok (.invokevirtual 195, 3) := by decide +kernel
theorem dX6_fray_32 : decode cX6_fray 32 = .ok (.if_icmp .le 9, 3) := by decide +kernel
theorem dX6_fray_35 : decode cX6_fray 35 = .ok (.aload_n 0, 1) := by decide +kernel
theorem dX6_fray_36 : decode cX6_fray 36 = .ok (.aload_n 1, 1) := by decide +kernel
theorem dX6_fray_37 : decode cX6_fray 37 = .ok (.invokevirtual 199, 3) := by decide +kernel
theorem dX6_fray_40 : decode cX6_fray 40 = .ok (.return_, 1) := by decide +kernel
theorem dX6_fray_41 : decode cX6_fray 41 = .ok (.aload_n 1, 1) := by decide +kernel
theorem dX6_fray_42 : decode cX6_fray 42 = .ok (.aload_n 1, 1) := by decide +kernel
theorem dX6_fray_43 : decode cX6_fray 43 = .ok (.getfield 163, 3) := by decide +kernel
theorem dX6_fray_46 : decode cX6_fray 46 = .ok (.aload_n 0, 1) := by decide +kernel
theorem dX6_fray_47 : decode cX6_fray 47 = .ok (.aload_n 1, 1) := by decide +kernel
theorem dX6_fray_48 : decode cX6_fray 48 = .ok (.aload_n 3, 1) := by decide +kernel
theorem dX6_fray_49 : decode cX6_fray 49 = .ok (.invokevirtual 202, 3) := by decide +kernel
theorem dX6_fray_52 : decode cX6_fray 52 = .ok (.iadd, 1) := by decide +kernel
theorem dX6_fray_53 : decode cX6_fray 53 = .ok (.bipush 99, 2) := by decide +kernel
theorem dX6_fray_55 : decode cX6_fray 55 = .ok (.invokestatic 102, 3) := by decide +kernel
theorem dX6_fray_58 : decode cX6_fray 58 = .ok (.putfield 163, 3) := by decide +kernel
theorem dX6_fray_61 : decode cX6_fray 61 = .ok (.aload_n 1, 1) := by decide +kernel
theorem dX6_fray_62 : decode cX6_fray 62 = .ok (.getfield 119, 3) := by decide +kernel
theorem dX6_fray_65 : decode cX6_fray 65 = .ok (.ifCond .ne 25, 3) := by decide +kernel
theorem dX6_fray_68 : decode cX6_fray 68 = .ok (.aload_n 1, 1) := by decide +kernel
theorem dX6_fray_69 : decode cX6_fray 69 = .ok (.dup, 1) := by decide +kernel
theorem dX6_fray_70 : decode cX6_fray 70 = .ok (.getfield 116, 3) := by decide +kernel
theorem dX6_fray_73 : decode cX6_fray 73 = .ok (.iconst 1, 1) := by decide +kernel
theorem dX6_fray_74 : decode cX6_fray 74 = .ok (.isub, 1) := by decide +kernel
theorem dX6_fray_75 : decode cX6_fray 75 = .ok (.putfield 116, 3) := by decide +kernel
theorem dX6_fray_78 : decode cX6_fray 78 = .ok (.aload_n 1, 1) := by decide +kernel
theorem dX6_fray_79 : decode cX6_fray 79 = .ok (.getfield 116, 3) := by decide +kernel
theorem dX6_fray_82 : decode cX6_fray 82 = .ok (.ifCond .gt 8, 3) := by decide +kernel
theorem dX6_fray_85 : decode cX6_fray 85 = .ok (.aload_n 0, 1) := by decide +kernel
theorem dX6_fray_86 : decode cX6_fray 86 = .ok (.aload_n 1, 1) := by decide +kernel
theorem dX6_fray_87 : decode cX6_fray 87 = .ok (.invokevirtual 199, 3) := by decide +kernel
theorem dX6_fray_90 : decode cX6_fray 90 = .ok (.return_, 1) := by decide +kernel
theorem lv_RX6_202 : gLv RX6 202 RX6 yX6_wearing cX6_wearing 3 (some .int) 2 := gLv_of (wA_t (wt6 (List.mem_of_getElem? (i := 16) (by decide +kernel))) (by decide +kernel)) (wA_t (wt5 (List.mem_of_getElem? (i := 63) (by decide +kernel))) (by decide +kernel)) (wA_t (wt5 (List.mem_of_getElem? (i := 64) (by decide +kernel))) (by decide +kernel)) (wA_t (wt1 (List.mem_of_getElem? (i := 6) (by decide +kernel))) (by decide +kernel)) (wA_t (wt5 (List.mem_of_getElem? (i := 65) (by decide +kernel))) (by decide +kernel)) ⟨rfl, by decide +kernel, by decide +kernel, by decide +kernel⟩
theorem lp_RX6_163 : gLp RX6 163 5 5 := ⟨(RX5, TX5, 10), rfl, by decide, wA_t (wt1 (List.mem_of_getElem? (i := 185) (by decide +kernel))) (by decide +kernel), rfl, rfl⟩
theorem lf_RX6_119 : gLf RX6 119 5 8 := ⟨(RX5, TX5, 10), rfl, by decide, wA_t (wt1 (List.mem_of_getElem? (i := 200) (by decide +kernel))) (by decide +kernel), rfl⟩
theorem lv_RX6_199 : gLv RX6 199 RX6 yX6_snap cX6_snap 2 none 1 := gLv_of (wA_t (wt6 (List.mem_of_getElem? (i := 7) (by decide +kernel))) (by decide +kernel)) (wA_t (wt6 (List.mem_of_getElem? (i := 9) (by decide +kernel))) (by decide +kernel)) (wA_of (List.mem_append_left _ (List.mem_map.mpr ⟨(⟨"YearRope$Shed", "snap", "(LYearRope$Rope;)V"⟩, 15), wp3 (List.mem_of_getElem? (i := 0) (by decide +kernel)), rfl⟩)) (by decide +kernel)) (wA_t (wt1 (List.mem_of_getElem? (i := 6) (by decide +kernel))) (by decide +kernel)) (wA_t (wt6 (List.mem_of_getElem? (i := 10) (by decide +kernel))) (by decide +kernel)) ⟨rfl, by decide +kernel, by decide +kernel, by decide +kernel⟩
theorem lv_RX6_195 : gLv RX6 195 RX6 yX6_bearing cX6_bearing 7 (some .int) 2 := gLv_of (wA_t (wt6 (List.mem_of_getElem? (i := 6) (by decide +kernel))) (by decide +kernel)) (wA_t (wt2 (List.mem_of_getElem? (i := 201) (by decide +kernel))) (by decide +kernel)) (wA_t (wt2 (List.mem_of_getElem? (i := 202) (by decide +kernel))) (by decide +kernel)) (wA_t (wt1 (List.mem_of_getElem? (i := 6) (by decide +kernel))) (by decide +kernel)) (wA_t (wt2 (List.mem_of_getElem? (i := 203) (by decide +kernel))) (by decide +kernel)) ⟨rfl, by decide +kernel, by decide +kernel, by decide +kernel⟩
def rm_X6_fray : Room := { frames := 4, cells := 0, slots := 0, locals := 97 }
def k_X6_fray_41 (τ : gτ) (n : Nat) (x0 : Nat) (x1 : Nat) (x3 : Nat)  (G : gG) : Option (gG) :=
  gBind2 (f_X6_wearing τ n x0 x1 x3 G) fun v1 G2 =>
  gLet (gsi G2 5 5 x1 (gmin ((gi G 5 5 x1) + v1) (99 : Int32))) fun G3 =>
  if (gi G3 5 8 x1) = 0 then (gLet (gsi G3 5 3 x1 ((gi G3 5 3 x1) - (1 : Int32))) fun G4 =>
  if 0 < (gi G4 5 3 x1) then (some G4)
  else ((f_X6_snap τ x0 x1 G4).bind fun G5 =>
  some G5))
  else (some G3)
def k_X6_fray_17 (τ : gτ) (n : Nat) (x0 : Nat) (x1 : Nat) (x3 : Nat) (s0 : Int32) (G : gG) : Option (gG) :=
  if s0 ≤ 0 then (k_X6_fray_41 τ n x0 x1 x3  G)
  else (gBind2 (f_X6_bearing τ n x0 x1 x3 G) fun v6 G7 =>
  if s0 ≤ v6 then (k_X6_fray_41 τ n x0 x1 x3  G7)
  else ((f_X6_snap τ x0 x1 G7).bind fun G8 =>
  some G8))
def f_X6_fray (τ : gτ) (n : Nat) (x0 : Nat) (x1 : Nat) (x2 : Int32) (x3 : Nat) (G : gG) : Option (gG) :=
  if x2 = 0 then (k_X6_fray_17 τ n x0 x1 x3 (gi G 5 7 x1) G)
  else (k_X6_fray_17 τ n x0 x1 x3 ((gi G 5 7 x1) * (2 : Int32)) G)
set_option maxHeartbeats 4000000 in
set_option maxRecDepth 100000 in
theorem w_X6_fray_41 {X : gX} {τ : gτ} {p : Program} {l : Launch} {e : Env} {s : State} {m : MethodId} {args : Array Value} {below : List Frame} {meth : Method} {c : Code} (fx : gFx X p s m args meth c cX6_fray 5 RX6) (n : Nat) (x0 : Nat) (x1 : Nat) (x3 : Nat)  (h0 : gK τ x0 6) (h1 : gK τ x1 5) (h3 : gK τ x3 1)  (hr : meth.sig.returnType = none) {G' : gG} {G : gG} {H : Heap} {locs : List Loc} {ls : Array Slot} (hw : gHw X τ G H locs) (hl : lv_has ls 5 [(0, .ref x0), (1, .ref x1), (3, .ref x3)]) (hok : gOk (k_X6_fray_41 τ n x0 x1 x3  G) (fun q => q = G'))  : W p l e rm_X6_fray s m args below meth c H locs 0 0 (MQ below (gQ X τ none G') args s 0 0 (gFree X)) (F0 m 41 ls []) := by
  unfold k_X6_fray_41 at hok
  refine lv_aload_n fx.1 fx.2.1 dX6_fray_41 rfl (lv_at hl 1 rfl) ?_
  refine lv_aload_n fx.1 fx.2.1 dX6_fray_42 rfl (lv_at hl 1 rfl) ?_
  refine g_geti fx hw h1 lf_RX6_163 rfl dX6_fray_43 ?_
  refine lv_aload_n fx.1 fx.2.1 dX6_fray_46 rfl (lv_at hl 0 rfl) ?_
  refine lv_aload_n fx.1 fx.2.1 dX6_fray_47 rfl (lv_at hl 1 rfl) ?_
  refine lv_aload_n fx.1 fx.2.1 dX6_fray_48 rfl (lv_at hl 2 rfl) ?_
  obtain ⟨v1, G2, hf, hok⟩ := gOk_bind2 hok
  refine g_callV0 (κ := 6) fx hw (c_X6_wearing l X τ n x0 x1 x3 G h0 h1 h3 hf) lv_RX6_202 ⟨rfl, rfl⟩ rfl rfl h0 rfl hl.1 rfl ⟨Nat.le_of_ble_eq_true rfl, Nat.le_of_ble_eq_true rfl⟩ (Nat.le_of_ble_eq_true rfl) ⟨Nat.le_of_ble_eq_true rfl, Nat.le_of_ble_eq_true rfl⟩ dX6_fray_49 (fun H locs hw => ?_)
  refine lv_iadd fx.1 fx.2.1 dX6_fray_52 ?_
  refine lv_bipush (v := 99) fx.1 fx.2.1 dX6_fray_53 (by decide) ?_
  refine g_mmin fx hl.1 lm_RX6_102 lmst_min lm_init lmco_min ⟨Nat.le_of_ble_eq_true rfl, Nat.le_of_ble_eq_true rfl, Nat.le_of_ble_eq_true rfl, Nat.le_of_ble_eq_true rfl⟩ dX6_fray_55 ?_
  refine g_puti fx hw h1 lp_RX6_163 rfl rfl dX6_fray_58 hok (fun G3 H locs hw hok => ?_)
  refine lv_aload_n fx.1 fx.2.1 dX6_fray_61 rfl (lv_at hl 1 rfl) ?_
  refine g_geti fx hw h1 lf_RX6_119 rfl dX6_fray_62 ?_
  refine g_if_ne (tgt := 90) fx dX6_fray_65 (by decide) hok (fun hok => ?_) (fun hok => ?_)
  · refine lv_aload_n fx.1 fx.2.1 dX6_fray_68 rfl (lv_at hl 1 rfl) ?_
    refine lv_dup fx.1 fx.2.1 dX6_fray_69 rfl ?_
    refine g_geti fx hw h1 lf_RX6_116 rfl dX6_fray_70 ?_
    refine lv_iconst (v := 1) fx.1 fx.2.1 dX6_fray_73 (by decide) ?_
    refine lv_isub fx.1 fx.2.1 dX6_fray_74 ?_
    refine g_puti fx hw h1 lp_RX6_116 rfl rfl dX6_fray_75 hok (fun G4 H locs hw hok => ?_)
    refine lv_aload_n fx.1 fx.2.1 dX6_fray_78 rfl (lv_at hl 1 rfl) ?_
    refine g_geti fx hw h1 lf_RX6_116 rfl dX6_fray_79 ?_
    refine g_if_gt (tgt := 90) fx dX6_fray_82 (by decide) hok (fun hok => ?_) (fun hok => ?_)
    · cases gOk_some hok
      exact g_vret fx hw hr dX6_fray_90
    · refine lv_aload_n fx.1 fx.2.1 dX6_fray_85 rfl (lv_at hl 0 rfl) ?_
      refine lv_aload_n fx.1 fx.2.1 dX6_fray_86 rfl (lv_at hl 1 rfl) ?_
      obtain ⟨G5, hf, hok⟩ := gOk_bind hok
      refine g_callV0 (κ := 6) fx hw (c_X6_snap l X τ x0 x1 G4 h0 h1 hf) lv_RX6_199 ⟨rfl, rfl⟩ rfl rfl h0 rfl hl.1 rfl ⟨Nat.le_of_ble_eq_true rfl, Nat.le_of_ble_eq_true rfl⟩ (Nat.le_of_ble_eq_true rfl) ⟨Nat.le_of_ble_eq_true rfl, Nat.le_of_ble_eq_true rfl⟩ dX6_fray_87 (fun H locs hw => ?_)
      cases gOk_some hok
      exact g_vret fx hw hr dX6_fray_90
  · cases gOk_some hok
    exact g_vret fx hw hr dX6_fray_90
set_option maxHeartbeats 4000000 in
set_option maxRecDepth 100000 in
theorem w_X6_fray_17 {X : gX} {τ : gτ} {p : Program} {l : Launch} {e : Env} {s : State} {m : MethodId} {args : Array Value} {below : List Frame} {meth : Method} {c : Code} (fx : gFx X p s m args meth c cX6_fray 5 RX6) (n : Nat) (x0 : Nat) (x1 : Nat) (x3 : Nat) (s0 : Int32) (h0 : gK τ x0 6) (h1 : gK τ x1 5) (h3 : gK τ x3 1)  (hr : meth.sig.returnType = none) {G' : gG} {G : gG} {H : Heap} {locs : List Loc} {ls : Array Slot} (hw : gHw X τ G H locs) (hl : lv_has ls 5 [(0, .ref x0), (1, .ref x1), (3, .ref x3)]) (hok : gOk (k_X6_fray_17 τ n x0 x1 x3 s0 G) (fun q => q = G'))  : W p l e rm_X6_fray s m args below meth c H locs 0 0 (MQ below (gQ X τ none G') args s 0 0 (gFree X)) (F0 m 17 ls [.int s0]) := by
  unfold k_X6_fray_17 at hok
  refine lv_istore (lv' := [(4, .int s0), (0, .ref x0), (1, .ref x1), (3, .ref x3)]) fx.1 fx.2.1 dX6_fray_17 hl (by decide) rfl (fun ls hl => ?_)
  refine lv_iload fx.1 fx.2.1 dX6_fray_19 (lv_at hl 0 rfl) ?_
  refine g_if_le (tgt := 41) fx dX6_fray_21 (by decide) hok (fun hok => ?_) (fun hok => ?_)
  · exact w_X6_fray_41 fx n x0 x1 x3  h0 h1 h3  hr hw (lv_sub hl [1, 2, 3] rfl) hok
  · refine lv_iload fx.1 fx.2.1 dX6_fray_24 (lv_at hl 0 rfl) ?_
    refine lv_aload_n fx.1 fx.2.1 dX6_fray_26 rfl (lv_at hl 1 rfl) ?_
    refine lv_aload_n fx.1 fx.2.1 dX6_fray_27 rfl (lv_at hl 2 rfl) ?_
    refine lv_aload_n fx.1 fx.2.1 dX6_fray_28 rfl (lv_at hl 3 rfl) ?_
    obtain ⟨v6, G7, hf, hok⟩ := gOk_bind2 hok
    refine g_callV0 (κ := 6) fx hw (c_X6_bearing l X τ n x0 x1 x3 G h0 h1 h3 hf) lv_RX6_195 ⟨rfl, rfl⟩ rfl rfl h0 rfl hl.1 rfl ⟨Nat.le_of_ble_eq_true rfl, Nat.le_of_ble_eq_true rfl⟩ (Nat.le_of_ble_eq_true rfl) ⟨Nat.le_of_ble_eq_true rfl, Nat.le_of_ble_eq_true rfl⟩ dX6_fray_29 (fun H locs hw => ?_)
    refine g_icmp_le (tgt := 41) fx dX6_fray_32 (by decide) hok (fun hok => ?_) (fun hok => ?_)
    · exact w_X6_fray_41 fx n x0 x1 x3  h0 h1 h3  hr hw (lv_sub hl [1, 2, 3] rfl) hok
    · refine lv_aload_n fx.1 fx.2.1 dX6_fray_35 rfl (lv_at hl 1 rfl) ?_
      refine lv_aload_n fx.1 fx.2.1 dX6_fray_36 rfl (lv_at hl 2 rfl) ?_
      obtain ⟨G8, hf, hok⟩ := gOk_bind hok
      refine g_callV0 (κ := 6) fx hw (c_X6_snap l X τ x0 x1 G7 h0 h1 hf) lv_RX6_199 ⟨rfl, rfl⟩ rfl rfl h0 rfl hl.1 rfl ⟨Nat.le_of_ble_eq_true rfl, Nat.le_of_ble_eq_true rfl⟩ (Nat.le_of_ble_eq_true rfl) ⟨Nat.le_of_ble_eq_true rfl, Nat.le_of_ble_eq_true rfl⟩ dX6_fray_37 (fun H locs hw => ?_)
      cases gOk_some hok
      exact g_vret fx hw hr dX6_fray_40
set_option maxHeartbeats 4000000 in
set_option maxRecDepth 100000 in
theorem c_X6_fray (l : Launch) (X : gX) (τ : gτ) (n : Nat) (x0 : Nat) (x1 : Nat) (x2 : Int32) (x3 : Nat) (G : gG) (h0 : gK τ x0 6) (h1 : gK τ x1 5) (h3 : gK τ x3 1) {G' : gG} (h : f_X6_fray τ n x0 x1 x2 x3 G = some G') : gM l X τ yX6_fray cX6_fray 5 none rm_X6_fray [.ref x0, .ref x1, .int x2, .ref x3] G none G' := by
  refine g_body (by decide +kernel) (Nat.le_of_ble_eq_true rfl) ?_
  intro p e s m args below meth c ls fx hr hw hl
  have fx : gFx X p s m args meth c cX6_fray 5 RX6 := fx
  have hl : lv_has ls 5 [(0, .ref x0), (1, .ref x1), (2, .int x2), (3, .ref x3)] := hl
  have hok : gOk (f_X6_fray τ n x0 x1 x2 x3 G) (fun q => q = G') := ⟨_, h, rfl⟩
  unfold f_X6_fray at hok
  show W p l e rm_X6_fray s m args below meth c s.heap [] 0 0 (MQ below (gQ X τ none G') args s 0 0 (gFree X)) _
  refine lv_iload_n fx.1 fx.2.1 dX6_fray_0 rfl (lv_at hl 2 rfl) ?_
  refine g_if_eq (tgt := 13) fx dX6_fray_1 (by decide) hok (fun hok => ?_) (fun hok => ?_)
  · refine lv_aload_n fx.1 fx.2.1 dX6_fray_13 rfl (lv_at hl 1 rfl) ?_
    refine g_geti fx hw h1 lf_RX6_123 rfl dX6_fray_14 ?_
    exact w_X6_fray_17 fx n x0 x1 x3 (gi G 5 7 x1) h0 h1 h3  hr hw (lv_sub hl [0, 1, 3] rfl) hok
  · refine lv_aload_n fx.1 fx.2.1 dX6_fray_4 rfl (lv_at hl 1 rfl) ?_
    refine g_geti fx hw h1 lf_RX6_123 rfl dX6_fray_5 ?_
    refine lv_iconst (v := 2) fx.1 fx.2.1 dX6_fray_8 (by decide) ?_
    refine lv_imul fx.1 fx.2.1 dX6_fray_9 ?_
    refine lv_goto (tgt := 17) fx.1 fx.2.1 dX6_fray_10 (by decide) ?_
    exact w_X6_fray_17 fx n x0 x1 x3 ((gi G 5 7 x1) * (2 : Int32)) h0 h1 h3  hr hw (lv_sub hl [0, 1, 3] rfl) hok
theorem dX6_endSeason_0 : decode cX6_endSeason 0 = .ok (.aload_n 0, 1) := by decide +kernel
theorem dX6_endSeason_1 : decode cX6_endSeason 1 = .ok (.aload_n 0, 1) := by decide +kernel
theorem dX6_endSeason_2 : decode cX6_endSeason 2 = .ok (.getfield 74, 3) := by decide +kernel
theorem dX6_endSeason_5 : decode cX6_endSeason 5 = .ok (.iconst 1, 1) := by decide +kernel
theorem dX6_endSeason_6 : decode cX6_endSeason 6 = .ok (.iadd, 1) := by decide +kernel
theorem dX6_endSeason_7 : decode cX6_endSeason 7 = .ok (.sipush 9999, 3) := by decide +kernel
theorem dX6_endSeason_10 : decode cX6_endSeason 10 = .ok (.invokestatic 102, 3) := by decide +kernel
theorem dX6_endSeason_13 : decode cX6_endSeason 13 = .ok (.putfield 74, 3) := by decide +kernel
theorem dX6_endSeason_16 : decode cX6_endSeason 16 = .ok (.return_, 1) := by decide +kernel
def rm_X6_endSeason : Room := { frames := 1, cells := 0, slots := 0, locals := 21 }
def f_X6_endSeason (x0 : Nat) (G : gG) : Option (gG) :=
  gLet (gsi G 6 10 x0 (gmin ((gi G 6 10 x0) + (1 : Int32)) (9999 : Int32))) fun G1 =>
  some G1
set_option maxHeartbeats 4000000 in
set_option maxRecDepth 100000 in
theorem c_X6_endSeason (l : Launch) (X : gX) (τ : gτ) (x0 : Nat) (G : gG) (h0 : gK τ x0 6) {G' : gG} (h : f_X6_endSeason x0 G = some G') : gM l X τ yX6_endSeason cX6_endSeason 1 none rm_X6_endSeason [.ref x0] G none G' := by
  refine g_body (by decide +kernel) (Nat.le_of_ble_eq_true rfl) ?_
  intro p e s m args below meth c ls fx hr hw hl
  have fx : gFx X p s m args meth c cX6_endSeason 1 RX6 := fx
  have hl : lv_has ls 1 [(0, .ref x0)] := hl
  have hok : gOk (f_X6_endSeason x0 G) (fun q => q = G') := ⟨_, h, rfl⟩
  unfold f_X6_endSeason at hok
  show W p l e rm_X6_endSeason s m args below meth c s.heap [] 0 0 (MQ below (gQ X τ none G') args s 0 0 (gFree X)) _
  refine lv_aload_n fx.1 fx.2.1 dX6_endSeason_0 rfl (lv_at hl 0 rfl) ?_
  refine lv_aload_n fx.1 fx.2.1 dX6_endSeason_1 rfl (lv_at hl 0 rfl) ?_
  refine g_geti fx hw h0 lf_RX6_74 rfl dX6_endSeason_2 ?_
  refine lv_iconst (v := 1) fx.1 fx.2.1 dX6_endSeason_5 (by decide) ?_
  refine lv_iadd fx.1 fx.2.1 dX6_endSeason_6 ?_
  refine lv_sipush (v := 9999) fx.1 fx.2.1 dX6_endSeason_7 (by decide) ?_
  refine g_mmin fx hl.1 lm_RX6_102 lmst_min lm_init lmco_min ⟨Nat.le_of_ble_eq_true rfl, Nat.le_of_ble_eq_true rfl, Nat.le_of_ble_eq_true rfl, Nat.le_of_ble_eq_true rfl⟩ dX6_endSeason_10 ?_
  refine g_puti fx hw h0 lp_RX6_74 rfl rfl dX6_endSeason_13 hok (fun G1 H locs hw hok => ?_)
  cases gOk_some hok
  exact g_vret fx hw hr dX6_endSeason_16
theorem dX6_passOne_0 : decode cX6_passOne 0 = .ok (.aload_n 0, 1) := by decide +kernel
theorem dX6_passOne_1 : decode cX6_passOne 1 = .ok (.invokevirtual 184, 3) := by decide +kernel
theorem dX6_passOne_4 : decode cX6_passOne 4 = .ok (.bipush 100, 2) := by decide +kernel
theorem dX6_passOne_6 : decode cX6_passOne 6 = .ok (.irem, 1) := by decide +kernel
theorem dX6_passOne_7 : decode cX6_passOne 7 = .ok (.aload_n 0, 1) := by decide +kernel
theorem dX6_passOne_8 : decode cX6_passOne 8 = .ok (.getfield 68, 3) := by decide +kernel
theorem dX6_passOne_11 : decode cX6_passOne 11 = .ok (.if_icmp .ge 7, 3) := by decide +kernel
theorem dX6_passOne_14 : decode cX6_passOne 14 = .ok (.iconst 1, 1) := by decide +kernel
theorem dX6_passOne_15 : decode cX6_passOne 15 = .ok (.goto 4, 3) := by decide +kernel
theorem dX6_passOne_18 : decode cX6_passOne 18 = .ok (.iconst 0, 1) := by decide +kernel
theorem dX6_passOne_19 : decode cX6_passOne 19 = .ok (.istore_n 2, 1) := by decide +kernel
theorem dX6_passOne_20 : decode cX6_passOne 20 = .ok (.iconst 0, 1) := by decide +kernel
theorem dX6_passOne_21 : decode cX6_passOne 21 = .ok (.istore_n 3, 1) := by decide +kernel
theorem dX6_passOne_22 : decode cX6_passOne 22 = .ok (.iload_n 3, 1) := by decide +kernel
theorem dX6_passOne_23 : decode cX6_passOne 23 = .ok (.aload_n 0, 1) := by decide +kernel
theorem dX6_passOne_24 : decode cX6_passOne 24 = .ok (.getfield 50, 3) := by decide +kernel
theorem dX6_passOne_27 : decode cX6_passOne 27 = .ok (.if_icmp .ge 33, 3) := by decide +kernel
theorem dX6_passOne_30 : decode cX6_passOne 30 = .ok (.aload_n 0, 1) := by decide +kernel
theorem dX6_passOne_31 : decode cX6_passOne 31 = .ok (.getfield 19, 3) := by decide +kernel
theorem dX6_passOne_34 : decode cX6_passOne 34 = .ok (.iload_n 3, 1) := by decide +kernel
theorem dX6_passOne_35 : decode cX6_passOne 35 = .ok (.aaload, 1) := by decide +kernel
theorem dX6_passOne_36 : decode cX6_passOne 36 = .ok (.getfield 135, 3) := by decide +kernel
theorem dX6_passOne_39 : decode cX6_passOne 39 = .ok (.ifCond .ne 15, 3) := by decide +kernel
theorem dX6_passOne_42 : decode cX6_passOne 42 = .ok (.aload_n 0, 1) := by decide +kernel
theorem dX6_passOne_43 : decode cX6_passOne 43 = .ok (.aload_n 0, 1) := by decide +kernel
theorem dX6_passOne_44 : decode cX6_passOne 44 = .ok (.getfield 19, 3) := by decide +kernel
theorem dX6_passOne_47 : decode cX6_passOne 47 = .ok (.iload_n 3, 1) := by decide +kernel
theorem dX6_passOne_48 : decode cX6_passOne 48 = .ok (.aaload, 1) := by decide +kernel
theorem dX6_passOne_49 : decode cX6_passOne 49 = .ok (.iload_n 2, 1) := by decide +kernel
theorem dX6_passOne_50 : decode cX6_passOne 50 = .ok (.aload_n 1, 1) := by decide +kernel
theorem dX6_passOne_51 : decode cX6_passOne 51 = .ok (.invokevirtual 187, 3) := by decide +kernel
theorem dX6_passOne_54 : decode cX6_passOne 54 = .ok (.iinc 3 1, 3) := by decide +kernel
theorem dX6_passOne_57 : decode cX6_passOne 57 = .ok (.goto (-35), 3) := by decide +kernel
theorem dX6_passOne_60 : decode cX6_passOne 60 = .ok (.iconst 0, 1) := by decide +kernel
theorem dX6_passOne_61 : decode cX6_passOne 61 = .ok (.istore_n 3, 1) := by decide +kernel
theorem dX6_passOne_62 : decode cX6_passOne 62 = .ok (.iload_n 3, 1) := by decide +kernel
theorem dX6_passOne_63 : decode cX6_passOne 63 = .ok (.aload_n 0, 1) := by decide +kernel
theorem dX6_passOne_64 : decode cX6_passOne 64 = .ok (.getfield 43, 3) := by decide +kernel
theorem dX6_passOne_67 : decode cX6_passOne 67 = .ok (.if_icmp .ge 60, 3) := by decide +kernel
theorem dX6_passOne_70 : decode cX6_passOne 70 = .ok (.aload_n 0, 1) := by decide +kernel
theorem dX6_passOne_71 : decode cX6_passOne 71 = .ok (.getfield 11, 3) := by decide +kernel
theorem dX6_passOne_74 : decode cX6_passOne 74 = .ok (.iload_n 3, 1) := by decide +kernel
theorem dX6_passOne_75 : decode cX6_passOne 75 = .ok (.aaload, 1) := by decide +kernel
theorem dX6_passOne_76 : decode cX6_passOne 76 = .ok (.getfield 89, 3) := by decide +kernel
theorem dX6_passOne_79 : decode cX6_passOne 79 = .ok (.ifCond .le 42, 3) := by decide +kernel
theorem dX6_passOne_82 : decode cX6_passOne 82 = .ok (.aload_n 0, 1) := by decide +kernel
theorem dX6_passOne_83 : decode cX6_passOne 83 = .ok (.invokevirtual 184, 3) := by decide +kernel
theorem dX6_passOne_86 : decode cX6_passOne 86 = .ok (.bipush 100, 2) := by decide +kernel
theorem dX6_passOne_88 : decode cX6_passOne 88 = .ok (.irem, 1) := by decide +kernel
theorem dX6_passOne_89 : decode cX6_passOne 89 = .ok (.aload_n 0, 1) := by decide +kernel
theorem dX6_passOne_90 : decode cX6_passOne 90 = .ok (.getfield 71, 3) := by decide +kernel
theorem dX6_passOne_93 : decode cX6_passOne 93 = .ok (.if_icmp .ge 28, 3) := by decide +kernel
theorem dX6_passOne_96 : decode cX6_passOne 96 = .ok (.aload_n 0, 1) := by decide +kernel
theorem dX6_passOne_97 : decode cX6_passOne 97 = .ok (.getfield 11, 3) := by decide +kernel
theorem dX6_passOne_100 : decode cX6_passOne 100 = .ok (.iload_n 3, 1) := by decide +kernel
theorem dX6_passOne_101 : decode cX6_passOne 101 = .ok (.aaload, 1) := by decide +kernel
theorem dX6_passOne_102 : decode cX6_passOne 102 = .ok (.aload_n 0, 1) := by decide +kernel
theorem dX6_passOne_103 : decode cX6_passOne 103 = .ok (.getfield 11, 3) := by decide +kernel
theorem dX6_passOne_106 : decode cX6_passOne 106 = .ok (.iload_n 3, 1) := by decide +kernel
theorem dX6_passOne_107 : decode cX6_passOne 107 = .ok (.aaload, 1) := by decide +kernel
theorem dX6_passOne_108 : decode cX6_passOne 108 = .ok (.getfield 92, 3) := by decide +kernel
theorem dX6_passOne_111 : decode cX6_passOne 111 = .ok (.iconst 1, 1) := by decide +kernel
theorem dX6_passOne_112 : decode cX6_passOne 112 = .ok (.iadd, 1) := by decide +kernel
theorem dX6_passOne_113 : decode cX6_passOne 113 = .ok (.bipush 9, 2) := by decide +kernel
theorem dX6_passOne_115 : decode cX6_passOne 115 = .ok (.invokestatic 102, 3) := by decide +kernel
theorem dX6_passOne_118 : decode cX6_passOne 118 = .ok (.putfield 92, 3) := by decide +kernel
theorem dX6_passOne_121 : decode cX6_passOne 121 = .ok (.iinc 3 1, 3) := by decide +kernel
theorem dX6_passOne_124 : decode cX6_passOne 124 = .ok (.goto (-62), 3) := by decide +kernel
theorem dX6_passOne_127 : decode cX6_passOne 127 = .ok (.aload_n 0, 1) := by decide +kernel
theorem dX6_passOne_128 : decode cX6_passOne 128 = .ok (.invokevirtual 191, 3) := by decide +kernel
theorem dX6_passOne_131 : decode cX6_passOne 131 = .ok (.return_, 1) := by decide +kernel
theorem lv_RX6_184 : gLv RX6 184 RX6 yX6_draw cX6_draw 1 (some .int) 0 := gLv_of (wA_t (wt5 (List.mem_of_getElem? (i := 237) (by decide +kernel))) (by decide +kernel)) (wA_t (wt5 (List.mem_of_getElem? (i := 239) (by decide +kernel))) (by decide +kernel)) (wA_of (List.mem_append_left _ (List.mem_map.mpr ⟨(⟨"YearRope$Shed", "draw", "()I"⟩, 15), wp2 (List.mem_of_getElem? (i := 15) (by decide +kernel)), rfl⟩)) (by decide +kernel)) (wA_t (wt1 (List.mem_of_getElem? (i := 6) (by decide +kernel))) (by decide +kernel)) (wA_t (wt6 (List.mem_of_getElem? (i := 0) (by decide +kernel))) (by decide +kernel)) ⟨rfl, by decide +kernel, by decide +kernel, by decide +kernel⟩
theorem lv_RX6_187 : gLv RX6 187 RX6 yX6_fray cX6_fray 5 none 3 := gLv_of (wA_t (wt6 (List.mem_of_getElem? (i := 2) (by decide +kernel))) (by decide +kernel)) (wA_t (wt6 (List.mem_of_getElem? (i := 3) (by decide +kernel))) (by decide +kernel)) (wA_t (wt6 (List.mem_of_getElem? (i := 4) (by decide +kernel))) (by decide +kernel)) (wA_t (wt1 (List.mem_of_getElem? (i := 6) (by decide +kernel))) (by decide +kernel)) (wA_t (wt6 (List.mem_of_getElem? (i := 5) (by decide +kernel))) (by decide +kernel)) ⟨rfl, by decide +kernel, by decide +kernel, by decide +kernel⟩
theorem lv_RX6_191 : gLv RX6 191 RX6 yX6_endSeason cX6_endSeason 1 none 0 := gLv_of (wA_t (wt6 (List.mem_of_getElem? (i := 17) (by decide +kernel))) (by decide +kernel)) (wA_t (wt6 (List.mem_of_getElem? (i := 18) (by decide +kernel))) (by decide +kernel)) (wA_t (wt6 (List.mem_of_getElem? (i := 19) (by decide +kernel))) (by decide +kernel)) (wA_t (wt1 (List.mem_of_getElem? (i := 6) (by decide +kernel))) (by decide +kernel)) (wA_t (wt6 (List.mem_of_getElem? (i := 20) (by decide +kernel))) (by decide +kernel)) ⟨rfl, by decide +kernel, by decide +kernel, by decide +kernel⟩
def rm_X6_passOne : Room := { frames := 5, cells := 0, slots := 0, locals := 121 }
def b_X6_passOne_22 (τ : gτ) (n : Nat) (x0 : Nat) (x1 : Nat) (x2 : Int32) (x3 : Int32) (G : gG) : Option ((Int32 × gG) ⊕ ((gG))) :=
  if (gi G 6 5 x0) ≤ x3 then (some (.inr G))
  else ((gr G 6 1 x0).bind fun a3 =>
  gchk (gIn x3 (gn τ a3)) <| (gq G a3 (Int32.toNatClampNeg x3)).bind fun a4 =>
  if (gi G 5 9 a4) = 0 then ((gr G 6 1 x0).bind fun a5 =>
  gchk (gIn x3 (gn τ a5)) <| (gq G a5 (Int32.toNatClampNeg x3)).bind fun a6 =>
  (f_X6_fray τ n x0 a6 x2 x1 G).bind fun G7 =>
  gLet (x3 + 1) fun v8 =>
  some (.inl (v8, G7)))
  else (gLet (x3 + 1) fun v9 =>
  some (.inl (v9, G))))
def l_X6_passOne_22 (τ : gτ) (n : Nat) (x0 : Nat) (x1 : Nat) (x2 : Int32) (x3 : Int32) (G : gG) : Option ((gG)) :=
  gIter (fun (q : Int32 × gG) => b_X6_passOne_22 τ n x0 x1 x2 q.1 q.2) n (x3, G)
def b_X6_passOne_62 (τ : gτ) (n : Nat) (x0 : Nat) (x3 : Int32) (G : gG) : Option ((Int32 × gG) ⊕ ((gG))) :=
  if (gi G 6 4 x0) ≤ x3 then (some (.inr G))
  else ((gr G 6 0 x0).bind fun a11 =>
  gchk (gIn x3 (gn τ a11)) <| (gq G a11 (Int32.toNatClampNeg x3)).bind fun a12 =>
  if (gi G 9 1 a12) ≤ 0 then (gLet (x3 + 1) fun v13 =>
  some (.inl (v13, G)))
  else (gBind2 (f_X6_draw x0 G) fun v14 G15 =>
  if (gi G15 6 9 x0) ≤ (v14 - v14 / (100 : Int32) * (100 : Int32)) then (gLet (x3 + 1) fun v16 =>
  some (.inl (v16, G15)))
  else ((gr G15 6 0 x0).bind fun a17 =>
  gchk (gIn x3 (gn τ a17)) <| (gq G15 a17 (Int32.toNatClampNeg x3)).bind fun a18 =>
  (gr G15 6 0 x0).bind fun a19 =>
  gchk (gIn x3 (gn τ a19)) <| (gq G15 a19 (Int32.toNatClampNeg x3)).bind fun a20 =>
  gLet (gsi G15 9 2 a18 (gmin ((gi G15 9 2 a20) + (1 : Int32)) (9 : Int32))) fun G21 =>
  gLet (x3 + 1) fun v22 =>
  some (.inl (v22, G21)))))
def l_X6_passOne_62 (τ : gτ) (n : Nat) (x0 : Nat) (x3 : Int32) (G : gG) : Option ((gG)) :=
  gIter (fun (q : Int32 × gG) => b_X6_passOne_62 τ n x0 q.1 q.2) n (x3, G)
def k_X6_passOne_127 (τ : gτ) (n : Nat) (x0 : Nat)  (G : gG) : Option (gG) :=
  (f_X6_endSeason x0 G).bind fun G24 =>
  some G24
def k_X6_passOne_60 (τ : gτ) (n : Nat) (x0 : Nat)  (G : gG) : Option (gG) :=
  (l_X6_passOne_62 τ n x0 (0 : Int32) G).bind fun q => gLet q fun G23 => 
  k_X6_passOne_127 τ n x0  G23
def k_X6_passOne_19 (τ : gτ) (n : Nat) (x0 : Nat) (x1 : Nat) (s0 : Int32) (G : gG) : Option (gG) :=
  (l_X6_passOne_22 τ n x0 x1 s0 (0 : Int32) G).bind fun q => gLet q fun G10 => 
  k_X6_passOne_60 τ n x0  G10
def f_X6_passOne (τ : gτ) (n : Nat) (x0 : Nat) (x1 : Nat) (G : gG) : Option (gG) :=
  gBind2 (f_X6_draw x0 G) fun v1 G2 =>
  if (gi G2 6 8 x0) ≤ (v1 - v1 / (100 : Int32) * (100 : Int32)) then (k_X6_passOne_19 τ n x0 x1 (0 : Int32) G2)
  else (k_X6_passOne_19 τ n x0 x1 (1 : Int32) G2)
set_option maxHeartbeats 4000000 in
set_option maxRecDepth 100000 in
theorem w_b_X6_passOne_22 {X : gX} {τ : gτ} {p : Program} {l : Launch} {e : Env} {s : State} {m : MethodId} {args : Array Value} {below : List Frame} {meth : Method} {c : Code} (fx : gFx X p s m args meth c cX6_passOne 4 RX6) (n : Nat) (x0 : Nat) (x1 : Nat) (x2 : Int32) (x3 : Int32) (h0 : gK τ x0 6) (h1 : gK τ x1 1) {Q : State → Prop} {K : ((Int32 × gG) ⊕ ((gG))) → Prop} {G : gG} {H : Heap} {locs : List Loc} {ls : Array Slot} (hw : gHw X τ G H locs) (hl : lv_has ls 4 [(0, .ref x0), (1, .ref x1), (2, .int x2), (3, .int x3)]) (hok : gOk (b_X6_passOne_22 τ n x0 x1 x2 x3 G) K) (hc : ∀ (y3 : Int32) (G : gG) (H : Heap) (locs : List Loc) (ls : Array Slot), gHw X τ G H locs → lv_has ls 4 [(0, .ref x0), (1, .ref x1), (2, .int x2), (3, .int y3)] → K (.inl (y3, G)) → W p l e rm_X6_passOne s m args below meth c H locs 0 0 Q (F0 m 22 ls [])) (hx0 : ∀ (G : gG) (H : Heap) (locs : List Loc) (ls : Array Slot), gHw X τ G H locs → lv_has ls 4 [(0, .ref x0)] → K (.inr G) → W p l e rm_X6_passOne s m args below meth c H locs 0 0 Q (F0 m 60 ls [])) : W p l e rm_X6_passOne s m args below meth c H locs 0 0 Q (F0 m 22 ls []) := by
  unfold b_X6_passOne_22 at hok
  refine lv_iload_n fx.1 fx.2.1 dX6_passOne_22 rfl (lv_at hl 3 rfl) ?_
  refine lv_aload_n fx.1 fx.2.1 dX6_passOne_23 rfl (lv_at hl 0 rfl) ?_
  refine g_geti fx hw h0 lf_RX6_50 rfl dX6_passOne_24 ?_
  refine g_icmp_ge (tgt := 60) fx dX6_passOne_27 (by decide) hok (fun hok => ?_) (fun hok => ?_)
  · exact hx0  G _ _ _  hw (lv_sub hl [0] rfl) (gOk_some hok)
  · refine lv_aload_n fx.1 fx.2.1 dX6_passOne_30 rfl (lv_at hl 0 rfl) ?_
    refine g_getr fx hw h0 lf_RX6_19 rfl dX6_passOne_31 hok (fun a3 h_a3 hok => ?_)
    refine lv_iload_n fx.1 fx.2.1 dX6_passOne_34 rfl (lv_at hl 3 rfl) ?_
    refine g_aald fx hw 15 3 h_a3 (by decide) (by decide) rfl (κ' := 5) rfl dX6_passOne_35 hok (fun a4 h_a4 hok => ?_)
    refine g_geti fx hw h_a4 lf_RX6_135 rfl dX6_passOne_36 ?_
    refine g_if_ne (tgt := 54) fx dX6_passOne_39 (by decide) hok (fun hok => ?_) (fun hok => ?_)
    · refine lv_aload_n fx.1 fx.2.1 dX6_passOne_42 rfl (lv_at hl 0 rfl) ?_
      refine lv_aload_n fx.1 fx.2.1 dX6_passOne_43 rfl (lv_at hl 0 rfl) ?_
      refine g_getr fx hw h0 lf_RX6_19 rfl dX6_passOne_44 hok (fun a5 h_a5 hok => ?_)
      refine lv_iload_n fx.1 fx.2.1 dX6_passOne_47 rfl (lv_at hl 3 rfl) ?_
      refine g_aald fx hw 15 3 h_a5 (by decide) (by decide) rfl (κ' := 5) rfl dX6_passOne_48 hok (fun a6 h_a6 hok => ?_)
      refine lv_iload_n fx.1 fx.2.1 dX6_passOne_49 rfl (lv_at hl 2 rfl) ?_
      refine lv_aload_n fx.1 fx.2.1 dX6_passOne_50 rfl (lv_at hl 1 rfl) ?_
      obtain ⟨G7, hf, hok⟩ := gOk_bind hok
      refine g_callV0 (κ := 6) fx hw (c_X6_fray l X τ n x0 a6 x2 x1 G h0 h_a6 h1 hf) lv_RX6_187 ⟨rfl, rfl⟩ rfl rfl h0 rfl hl.1 rfl ⟨Nat.le_of_ble_eq_true rfl, Nat.le_of_ble_eq_true rfl⟩ (Nat.le_of_ble_eq_true rfl) ⟨Nat.le_of_ble_eq_true rfl, Nat.le_of_ble_eq_true rfl⟩ dX6_passOne_51 (fun H locs hw => ?_)
      obtain ⟨v8, e_v8, hok⟩ := gOk_let hok
      refine lv_iinc (v := v8) (lv' := [(3, .int v8), (0, .ref x0), (1, .ref x1), (2, .int x2)]) fx.1 fx.2.1 dX6_passOne_54 hl (k := 3) rfl (by rw [e_v8]; rfl) (by decide) rfl (fun ls hl => ?_)
      refine lv_goto (tgt := 22) fx.1 fx.2.1 dX6_passOne_57 (by decide) ?_
      exact hc v8 G7 _ _ _  hw (lv_sub hl [1, 2, 3, 0] rfl) (gOk_some hok)
    · obtain ⟨v9, e_v9, hok⟩ := gOk_let hok
      refine lv_iinc (v := v9) (lv' := [(3, .int v9), (0, .ref x0), (1, .ref x1), (2, .int x2)]) fx.1 fx.2.1 dX6_passOne_54 hl (k := 3) rfl (by rw [e_v9]; rfl) (by decide) rfl (fun ls hl => ?_)
      refine lv_goto (tgt := 22) fx.1 fx.2.1 dX6_passOne_57 (by decide) ?_
      exact hc v9 G _ _ _  hw (lv_sub hl [1, 2, 3, 0] rfl) (gOk_some hok)
theorem w_l_X6_passOne_22 {X : gX} {τ : gτ} {p : Program} {l : Launch} {e : Env} {s : State} {m : MethodId} {args : Array Value} {below : List Frame} {meth : Method} {c : Code} (fx : gFx X p s m args meth c cX6_passOne 4 RX6) (n : Nat) (x0 : Nat) (x1 : Nat) (x2 : Int32) (h0 : gK τ x0 6) (h1 : gK τ x1 1) {Q : State → Prop} {K : ((gG)) → Prop} (hx0 : ∀ (G : gG) (H : Heap) (locs : List Loc) (ls : Array Slot), gHw X τ G H locs → lv_has ls 4 [(0, .ref x0)] → K G → W p l e rm_X6_passOne s m args below meth c H locs 0 0 Q (F0 m 60 ls [])) : ∀ (k : Nat) (x3 : Int32) (G : gG) (H : Heap) (locs : List Loc) (ls : Array Slot), gHw X τ G H locs → lv_has ls 4 [(0, .ref x0), (1, .ref x1), (2, .int x2), (3, .int x3)] → gOk (gIter (fun (q : Int32 × gG) => b_X6_passOne_22 τ n x0 x1 x2 q.1 q.2) k (x3, G)) K → W p l e rm_X6_passOne s m args below meth c H locs 0 0 Q (F0 m 22 ls []) := by
  intro k
  induction k with
  | zero =>
    intro x3 G H locs ls hw hl hok
    exact gOk_iter0 hok
  | succ k hc =>
    intro x3 G H locs ls hw hl hok
    exact w_b_X6_passOne_22 fx n x0 x1 x2 x3 h0 h1 hw hl (gOk_iter hok) hc hx0
set_option maxHeartbeats 4000000 in
set_option maxRecDepth 100000 in
theorem w_b_X6_passOne_62 {X : gX} {τ : gτ} {p : Program} {l : Launch} {e : Env} {s : State} {m : MethodId} {args : Array Value} {below : List Frame} {meth : Method} {c : Code} (fx : gFx X p s m args meth c cX6_passOne 4 RX6) (n : Nat) (x0 : Nat) (x3 : Int32) (h0 : gK τ x0 6) {Q : State → Prop} {K : ((Int32 × gG) ⊕ ((gG))) → Prop} {G : gG} {H : Heap} {locs : List Loc} {ls : Array Slot} (hw : gHw X τ G H locs) (hl : lv_has ls 4 [(0, .ref x0), (3, .int x3)]) (hok : gOk (b_X6_passOne_62 τ n x0 x3 G) K) (hc : ∀ (y3 : Int32) (G : gG) (H : Heap) (locs : List Loc) (ls : Array Slot), gHw X τ G H locs → lv_has ls 4 [(0, .ref x0), (3, .int y3)] → K (.inl (y3, G)) → W p l e rm_X6_passOne s m args below meth c H locs 0 0 Q (F0 m 62 ls [])) (hx0 : ∀ (G : gG) (H : Heap) (locs : List Loc) (ls : Array Slot), gHw X τ G H locs → lv_has ls 4 [(0, .ref x0)] → K (.inr G) → W p l e rm_X6_passOne s m args below meth c H locs 0 0 Q (F0 m 127 ls [])) : W p l e rm_X6_passOne s m args below meth c H locs 0 0 Q (F0 m 62 ls []) := by
  unfold b_X6_passOne_62 at hok
  refine lv_iload_n fx.1 fx.2.1 dX6_passOne_62 rfl (lv_at hl 1 rfl) ?_
  refine lv_aload_n fx.1 fx.2.1 dX6_passOne_63 rfl (lv_at hl 0 rfl) ?_
  refine g_geti fx hw h0 lf_RX6_43 rfl dX6_passOne_64 ?_
  refine g_icmp_ge (tgt := 127) fx dX6_passOne_67 (by decide) hok (fun hok => ?_) (fun hok => ?_)
  · exact hx0  G _ _ _  hw (lv_sub hl [0] rfl) (gOk_some hok)
  · refine lv_aload_n fx.1 fx.2.1 dX6_passOne_70 rfl (lv_at hl 0 rfl) ?_
    refine g_getr fx hw h0 lf_RX6_11 rfl dX6_passOne_71 hok (fun a11 h_a11 hok => ?_)
    refine lv_iload_n fx.1 fx.2.1 dX6_passOne_74 rfl (lv_at hl 1 rfl) ?_
    refine g_aald fx hw 17 5 h_a11 (by decide) (by decide) rfl (κ' := 9) rfl dX6_passOne_75 hok (fun a12 h_a12 hok => ?_)
    refine g_geti fx hw h_a12 lf_RX6_89 rfl dX6_passOne_76 ?_
    refine g_if_le (tgt := 121) fx dX6_passOne_79 (by decide) hok (fun hok => ?_) (fun hok => ?_)
    · obtain ⟨v13, e_v13, hok⟩ := gOk_let hok
      refine lv_iinc (v := v13) (lv' := [(3, .int v13), (0, .ref x0)]) fx.1 fx.2.1 dX6_passOne_121 hl (k := 1) rfl (by rw [e_v13]; rfl) (by decide) rfl (fun ls hl => ?_)
      refine lv_goto (tgt := 62) fx.1 fx.2.1 dX6_passOne_124 (by decide) ?_
      exact hc v13 G _ _ _  hw (lv_sub hl [1, 0] rfl) (gOk_some hok)
    · refine lv_aload_n fx.1 fx.2.1 dX6_passOne_82 rfl (lv_at hl 0 rfl) ?_
      obtain ⟨v14, G15, hf, hok⟩ := gOk_bind2 hok
      refine g_callV0 (κ := 6) fx hw (c_X6_draw l X τ x0 G h0 hf) lv_RX6_184 ⟨rfl, rfl⟩ rfl rfl h0 rfl hl.1 rfl ⟨Nat.le_of_ble_eq_true rfl, Nat.le_of_ble_eq_true rfl⟩ (Nat.le_of_ble_eq_true rfl) ⟨Nat.le_of_ble_eq_true rfl, Nat.le_of_ble_eq_true rfl⟩ dX6_passOne_83 (fun H locs hw => ?_)
      refine lv_bipush (v := 100) fx.1 fx.2.1 dX6_passOne_86 (by decide) ?_
      refine lv_irem fx.1 fx.2.1 dX6_passOne_88 (by decide) ?_
      refine lv_aload_n fx.1 fx.2.1 dX6_passOne_89 rfl (lv_at hl 0 rfl) ?_
      refine g_geti fx hw h0 lf_RX6_71 rfl dX6_passOne_90 ?_
      refine g_icmp_ge (tgt := 121) fx dX6_passOne_93 (by decide) hok (fun hok => ?_) (fun hok => ?_)
      · obtain ⟨v16, e_v16, hok⟩ := gOk_let hok
        refine lv_iinc (v := v16) (lv' := [(3, .int v16), (0, .ref x0)]) fx.1 fx.2.1 dX6_passOne_121 hl (k := 1) rfl (by rw [e_v16]; rfl) (by decide) rfl (fun ls hl => ?_)
        refine lv_goto (tgt := 62) fx.1 fx.2.1 dX6_passOne_124 (by decide) ?_
        exact hc v16 G15 _ _ _  hw (lv_sub hl [1, 0] rfl) (gOk_some hok)
      · refine lv_aload_n fx.1 fx.2.1 dX6_passOne_96 rfl (lv_at hl 0 rfl) ?_
        refine g_getr fx hw h0 lf_RX6_11 rfl dX6_passOne_97 hok (fun a17 h_a17 hok => ?_)
        refine lv_iload_n fx.1 fx.2.1 dX6_passOne_100 rfl (lv_at hl 1 rfl) ?_
        refine g_aald fx hw 17 5 h_a17 (by decide) (by decide) rfl (κ' := 9) rfl dX6_passOne_101 hok (fun a18 h_a18 hok => ?_)
        refine lv_aload_n fx.1 fx.2.1 dX6_passOne_102 rfl (lv_at hl 0 rfl) ?_
        refine g_getr fx hw h0 lf_RX6_11 rfl dX6_passOne_103 hok (fun a19 h_a19 hok => ?_)
        refine lv_iload_n fx.1 fx.2.1 dX6_passOne_106 rfl (lv_at hl 1 rfl) ?_
        refine g_aald fx hw 17 5 h_a19 (by decide) (by decide) rfl (κ' := 9) rfl dX6_passOne_107 hok (fun a20 h_a20 hok => ?_)
        refine g_geti fx hw h_a20 lf_RX6_92 rfl dX6_passOne_108 ?_
        refine lv_iconst (v := 1) fx.1 fx.2.1 dX6_passOne_111 (by decide) ?_
        refine lv_iadd fx.1 fx.2.1 dX6_passOne_112 ?_
        refine lv_bipush (v := 9) fx.1 fx.2.1 dX6_passOne_113 (by decide) ?_
        refine g_mmin fx hl.1 lm_RX6_102 lmst_min lm_init lmco_min ⟨Nat.le_of_ble_eq_true rfl, Nat.le_of_ble_eq_true rfl, Nat.le_of_ble_eq_true rfl, Nat.le_of_ble_eq_true rfl⟩ dX6_passOne_115 ?_
        refine g_puti fx hw h_a18 lp_RX6_92 rfl rfl dX6_passOne_118 hok (fun G21 H locs hw hok => ?_)
        obtain ⟨v22, e_v22, hok⟩ := gOk_let hok
        refine lv_iinc (v := v22) (lv' := [(3, .int v22), (0, .ref x0)]) fx.1 fx.2.1 dX6_passOne_121 hl (k := 1) rfl (by rw [e_v22]; rfl) (by decide) rfl (fun ls hl => ?_)
        refine lv_goto (tgt := 62) fx.1 fx.2.1 dX6_passOne_124 (by decide) ?_
        exact hc v22 G21 _ _ _  hw (lv_sub hl [1, 0] rfl) (gOk_some hok)
theorem w_l_X6_passOne_62 {X : gX} {τ : gτ} {p : Program} {l : Launch} {e : Env} {s : State} {m : MethodId} {args : Array Value} {below : List Frame} {meth : Method} {c : Code} (fx : gFx X p s m args meth c cX6_passOne 4 RX6) (n : Nat) (x0 : Nat) (h0 : gK τ x0 6) {Q : State → Prop} {K : ((gG)) → Prop} (hx0 : ∀ (G : gG) (H : Heap) (locs : List Loc) (ls : Array Slot), gHw X τ G H locs → lv_has ls 4 [(0, .ref x0)] → K G → W p l e rm_X6_passOne s m args below meth c H locs 0 0 Q (F0 m 127 ls [])) : ∀ (k : Nat) (x3 : Int32) (G : gG) (H : Heap) (locs : List Loc) (ls : Array Slot), gHw X τ G H locs → lv_has ls 4 [(0, .ref x0), (3, .int x3)] → gOk (gIter (fun (q : Int32 × gG) => b_X6_passOne_62 τ n x0 q.1 q.2) k (x3, G)) K → W p l e rm_X6_passOne s m args below meth c H locs 0 0 Q (F0 m 62 ls []) := by
  intro k
  induction k with
  | zero =>
    intro x3 G H locs ls hw hl hok
    exact gOk_iter0 hok
  | succ k hc =>
    intro x3 G H locs ls hw hl hok
    exact w_b_X6_passOne_62 fx n x0 x3 h0 hw hl (gOk_iter hok) hc hx0
set_option maxHeartbeats 4000000 in
set_option maxRecDepth 100000 in
theorem w_X6_passOne_127 {X : gX} {τ : gτ} {p : Program} {l : Launch} {e : Env} {s : State} {m : MethodId} {args : Array Value} {below : List Frame} {meth : Method} {c : Code} (fx : gFx X p s m args meth c cX6_passOne 4 RX6) (n : Nat) (x0 : Nat)  (h0 : gK τ x0 6)  (hr : meth.sig.returnType = none) {G' : gG} {G : gG} {H : Heap} {locs : List Loc} {ls : Array Slot} (hw : gHw X τ G H locs) (hl : lv_has ls 4 [(0, .ref x0)]) (hok : gOk (k_X6_passOne_127 τ n x0  G) (fun q => q = G'))  : W p l e rm_X6_passOne s m args below meth c H locs 0 0 (MQ below (gQ X τ none G') args s 0 0 (gFree X)) (F0 m 127 ls []) := by
  unfold k_X6_passOne_127 at hok
  refine lv_aload_n fx.1 fx.2.1 dX6_passOne_127 rfl (lv_at hl 0 rfl) ?_
  obtain ⟨G24, hf, hok⟩ := gOk_bind hok
  refine g_callV0 (κ := 6) fx hw (c_X6_endSeason l X τ x0 G h0 hf) lv_RX6_191 ⟨rfl, rfl⟩ rfl rfl h0 rfl hl.1 rfl ⟨Nat.le_of_ble_eq_true rfl, Nat.le_of_ble_eq_true rfl⟩ (Nat.le_of_ble_eq_true rfl) ⟨Nat.le_of_ble_eq_true rfl, Nat.le_of_ble_eq_true rfl⟩ dX6_passOne_128 (fun H locs hw => ?_)
  cases gOk_some hok
  exact g_vret fx hw hr dX6_passOne_131
set_option maxHeartbeats 4000000 in
set_option maxRecDepth 100000 in
theorem w_X6_passOne_60 {X : gX} {τ : gτ} {p : Program} {l : Launch} {e : Env} {s : State} {m : MethodId} {args : Array Value} {below : List Frame} {meth : Method} {c : Code} (fx : gFx X p s m args meth c cX6_passOne 4 RX6) (n : Nat) (x0 : Nat)  (h0 : gK τ x0 6)  (hr : meth.sig.returnType = none) {G' : gG} {G : gG} {H : Heap} {locs : List Loc} {ls : Array Slot} (hw : gHw X τ G H locs) (hl : lv_has ls 4 [(0, .ref x0)]) (hok : gOk (k_X6_passOne_60 τ n x0  G) (fun q => q = G'))  : W p l e rm_X6_passOne s m args below meth c H locs 0 0 (MQ below (gQ X τ none G') args s 0 0 (gFree X)) (F0 m 60 ls []) := by
  unfold k_X6_passOne_60 at hok
  refine lv_iconst (v := 0) fx.1 fx.2.1 dX6_passOne_60 (by decide) ?_
  refine lv_istore_n (lv' := [(3, .int (0 : Int32)), (0, .ref x0)]) fx.1 fx.2.1 dX6_passOne_61 rfl hl (by decide) rfl (fun ls hl => ?_)
  refine w_l_X6_passOne_62 fx n x0 h0 ?_ n (0 : Int32) G _ _ _  hw (lv_sub hl [1, 0] rfl) (gOk_bindK hok)
  intro G23 H locs ls hw hl hok
  have hok : gOk (ρ := gG) (k_X6_passOne_127 τ n x0  G23) _ := hok
  exact w_X6_passOne_127 fx n x0  h0  hr hw (lv_sub hl [0] rfl) hok
set_option maxHeartbeats 4000000 in
set_option maxRecDepth 100000 in
theorem w_X6_passOne_19 {X : gX} {τ : gτ} {p : Program} {l : Launch} {e : Env} {s : State} {m : MethodId} {args : Array Value} {below : List Frame} {meth : Method} {c : Code} (fx : gFx X p s m args meth c cX6_passOne 4 RX6) (n : Nat) (x0 : Nat) (x1 : Nat) (s0 : Int32) (h0 : gK τ x0 6) (h1 : gK τ x1 1)  (hr : meth.sig.returnType = none) {G' : gG} {G : gG} {H : Heap} {locs : List Loc} {ls : Array Slot} (hw : gHw X τ G H locs) (hl : lv_has ls 4 [(0, .ref x0), (1, .ref x1)]) (hok : gOk (k_X6_passOne_19 τ n x0 x1 s0 G) (fun q => q = G'))  : W p l e rm_X6_passOne s m args below meth c H locs 0 0 (MQ below (gQ X τ none G') args s 0 0 (gFree X)) (F0 m 19 ls [.int s0]) := by
  unfold k_X6_passOne_19 at hok
  refine lv_istore_n (lv' := [(2, .int s0), (0, .ref x0), (1, .ref x1)]) fx.1 fx.2.1 dX6_passOne_19 rfl hl (by decide) rfl (fun ls hl => ?_)
  refine lv_iconst (v := 0) fx.1 fx.2.1 dX6_passOne_20 (by decide) ?_
  refine lv_istore_n (lv' := [(3, .int (0 : Int32)), (2, .int s0), (0, .ref x0), (1, .ref x1)]) fx.1 fx.2.1 dX6_passOne_21 rfl hl (by decide) rfl (fun ls hl => ?_)
  refine w_l_X6_passOne_22 fx n x0 x1 s0 h0 h1 ?_ n (0 : Int32) G _ _ _  hw (lv_sub hl [2, 3, 1, 0] rfl) (gOk_bindK hok)
  intro G10 H locs ls hw hl hok
  have hok : gOk (ρ := gG) (k_X6_passOne_60 τ n x0  G10) _ := hok
  exact w_X6_passOne_60 fx n x0  h0  hr hw (lv_sub hl [0] rfl) hok
set_option maxHeartbeats 4000000 in
set_option maxRecDepth 100000 in
theorem c_X6_passOne (l : Launch) (X : gX) (τ : gτ) (n : Nat) (x0 : Nat) (x1 : Nat) (G : gG) (h0 : gK τ x0 6) (h1 : gK τ x1 1) {G' : gG} (h : f_X6_passOne τ n x0 x1 G = some G') : gM l X τ yX6_passOne cX6_passOne 4 none rm_X6_passOne [.ref x0, .ref x1] G none G' := by
  refine g_body (by decide +kernel) (Nat.le_of_ble_eq_true rfl) ?_
  intro p e s m args below meth c ls fx hr hw hl
  have fx : gFx X p s m args meth c cX6_passOne 4 RX6 := fx
  have hl : lv_has ls 4 [(0, .ref x0), (1, .ref x1)] := hl
  have hok : gOk (f_X6_passOne τ n x0 x1 G) (fun q => q = G') := ⟨_, h, rfl⟩
  unfold f_X6_passOne at hok
  show W p l e rm_X6_passOne s m args below meth c s.heap [] 0 0 (MQ below (gQ X τ none G') args s 0 0 (gFree X)) _
  refine lv_aload_n fx.1 fx.2.1 dX6_passOne_0 rfl (lv_at hl 0 rfl) ?_
  obtain ⟨v1, G2, hf, hok⟩ := gOk_bind2 hok
  refine g_callV0 (κ := 6) fx hw (c_X6_draw l X τ x0 G h0 hf) lv_RX6_184 ⟨rfl, rfl⟩ rfl rfl h0 rfl hl.1 rfl ⟨Nat.le_of_ble_eq_true rfl, Nat.le_of_ble_eq_true rfl⟩ (Nat.le_of_ble_eq_true rfl) ⟨Nat.le_of_ble_eq_true rfl, Nat.le_of_ble_eq_true rfl⟩ dX6_passOne_1 (fun H locs hw => ?_)
  refine lv_bipush (v := 100) fx.1 fx.2.1 dX6_passOne_4 (by decide) ?_
  refine lv_irem fx.1 fx.2.1 dX6_passOne_6 (by decide) ?_
  refine lv_aload_n fx.1 fx.2.1 dX6_passOne_7 rfl (lv_at hl 0 rfl) ?_
  refine g_geti fx hw h0 lf_RX6_68 rfl dX6_passOne_8 ?_
  refine g_icmp_ge (tgt := 18) fx dX6_passOne_11 (by decide) hok (fun hok => ?_) (fun hok => ?_)
  · refine lv_iconst (v := 0) fx.1 fx.2.1 dX6_passOne_18 (by decide) ?_
    exact w_X6_passOne_19 fx n x0 x1 (0 : Int32) h0 h1  hr hw (lv_sub hl [0, 1] rfl) hok
  · refine lv_iconst (v := 1) fx.1 fx.2.1 dX6_passOne_14 (by decide) ?_
    refine lv_goto (tgt := 19) fx.1 fx.2.1 dX6_passOne_15 (by decide) ?_
    exact w_X6_passOne_19 fx n x0 x1 (1 : Int32) h0 h1  hr hw (lv_sub hl [0, 1] rfl) hok
theorem dX6_pass_0 : decode cX6_pass 0 = .ok (.iconst 0, 1) := by decide +kernel
theorem dX6_pass_1 : decode cX6_pass 1 = .ok (.istore_n 3, 1) := by decide +kernel
theorem dX6_pass_2 : decode cX6_pass 2 = .ok (.iload_n 3, 1) := by decide +kernel
theorem dX6_pass_3 : decode cX6_pass 3 = .ok (.iload_n 1, 1) := by decide +kernel
theorem dX6_pass_4 : decode cX6_pass 4 = .ok (.if_icmp .ge 14, 3) := by decide +kernel
theorem dX6_pass_7 : decode cX6_pass 7 = .ok (.aload_n 0, 1) := by decide +kernel
theorem dX6_pass_8 : decode cX6_pass 8 = .ok (.aload_n 2, 1) := by decide +kernel
theorem dX6_pass_9 : decode cX6_pass 9 = .ok (.invokevirtual 180, 3) := by decide +kernel
theorem dX6_pass_12 : decode cX6_pass 12 = .ok (.iinc 3 1, 3) := by decide +kernel
theorem dX6_pass_15 : decode cX6_pass 15 = .ok (.goto (-13), 3) := by decide +kernel
theorem dX6_pass_18 : decode cX6_pass 18 = .ok (.return_, 1) := by decide +kernel
theorem lv_RX6_180 : gLv RX6 180 RX6 yX6_passOne cX6_passOne 4 none 1 := gLv_of (wA_t (wt5 (List.mem_of_getElem? (i := 233) (by decide +kernel))) (by decide +kernel)) (wA_t (wt5 (List.mem_of_getElem? (i := 235) (by decide +kernel))) (by decide +kernel)) (wA_of (List.mem_append_left _ (List.mem_map.mpr ⟨(⟨"YearRope$Shed", "passOne", "(LYearRope$Law;)V"⟩, 15), wp2 (List.mem_of_getElem? (i := 14) (by decide +kernel)), rfl⟩)) (by decide +kernel)) (wA_t (wt1 (List.mem_of_getElem? (i := 6) (by decide +kernel))) (by decide +kernel)) (wA_t (wt5 (List.mem_of_getElem? (i := 236) (by decide +kernel))) (by decide +kernel)) ⟨rfl, by decide +kernel, by decide +kernel, by decide +kernel⟩
def rm_X6_pass : Room := { frames := 6, cells := 0, slots := 0, locals := 144 }
def b_X6_pass_2 (τ : gτ) (n : Nat) (x0 : Nat) (x1 : Int32) (x2 : Nat) (x3 : Int32) (G : gG) : Option ((Int32 × gG) ⊕ ((gG))) :=
  if x1 ≤ x3 then (some (.inr G))
  else ((f_X6_passOne τ n x0 x2 G).bind fun G1 =>
  gLet (x3 + 1) fun v2 =>
  some (.inl (v2, G1)))
def l_X6_pass_2 (τ : gτ) (n : Nat) (x0 : Nat) (x1 : Int32) (x2 : Nat) (x3 : Int32) (G : gG) : Option ((gG)) :=
  gIter (fun (q : Int32 × gG) => b_X6_pass_2 τ n x0 x1 x2 q.1 q.2) n (x3, G)
def f_X6_pass (τ : gτ) (n : Nat) (x0 : Nat) (x1 : Int32) (x2 : Nat) (G : gG) : Option (gG) :=
  (l_X6_pass_2 τ n x0 x1 x2 (0 : Int32) G).bind fun q => gLet q fun G3 => 
  some G3
set_option maxHeartbeats 4000000 in
set_option maxRecDepth 100000 in
theorem w_b_X6_pass_2 {X : gX} {τ : gτ} {p : Program} {l : Launch} {e : Env} {s : State} {m : MethodId} {args : Array Value} {below : List Frame} {meth : Method} {c : Code} (fx : gFx X p s m args meth c cX6_pass 4 RX6) (n : Nat) (x0 : Nat) (x1 : Int32) (x2 : Nat) (x3 : Int32) (h0 : gK τ x0 6) (h2 : gK τ x2 1) {Q : State → Prop} {K : ((Int32 × gG) ⊕ ((gG))) → Prop} {G : gG} {H : Heap} {locs : List Loc} {ls : Array Slot} (hw : gHw X τ G H locs) (hl : lv_has ls 4 [(0, .ref x0), (1, .int x1), (2, .ref x2), (3, .int x3)]) (hok : gOk (b_X6_pass_2 τ n x0 x1 x2 x3 G) K) (hc : ∀ (y3 : Int32) (G : gG) (H : Heap) (locs : List Loc) (ls : Array Slot), gHw X τ G H locs → lv_has ls 4 [(0, .ref x0), (1, .int x1), (2, .ref x2), (3, .int y3)] → K (.inl (y3, G)) → W p l e rm_X6_pass s m args below meth c H locs 0 0 Q (F0 m 2 ls [])) (hx0 : ∀ (G : gG) (H : Heap) (locs : List Loc) (ls : Array Slot), gHw X τ G H locs → lv_has ls 4 [] → K (.inr G) → W p l e rm_X6_pass s m args below meth c H locs 0 0 Q (F0 m 18 ls [])) : W p l e rm_X6_pass s m args below meth c H locs 0 0 Q (F0 m 2 ls []) := by
  unfold b_X6_pass_2 at hok
  refine lv_iload_n fx.1 fx.2.1 dX6_pass_2 rfl (lv_at hl 3 rfl) ?_
  refine lv_iload_n fx.1 fx.2.1 dX6_pass_3 rfl (lv_at hl 1 rfl) ?_
  refine g_icmp_ge (tgt := 18) fx dX6_pass_4 (by decide) hok (fun hok => ?_) (fun hok => ?_)
  · exact hx0  G _ _ _  hw (lv_sub hl [] rfl) (gOk_some hok)
  · refine lv_aload_n fx.1 fx.2.1 dX6_pass_7 rfl (lv_at hl 0 rfl) ?_
    refine lv_aload_n fx.1 fx.2.1 dX6_pass_8 rfl (lv_at hl 2 rfl) ?_
    obtain ⟨G1, hf, hok⟩ := gOk_bind hok
    refine g_callV0 (κ := 6) fx hw (c_X6_passOne l X τ n x0 x2 G h0 h2 hf) lv_RX6_180 ⟨rfl, rfl⟩ rfl rfl h0 rfl hl.1 rfl ⟨Nat.le_of_ble_eq_true rfl, Nat.le_of_ble_eq_true rfl⟩ (Nat.le_of_ble_eq_true rfl) ⟨Nat.le_of_ble_eq_true rfl, Nat.le_of_ble_eq_true rfl⟩ dX6_pass_9 (fun H locs hw => ?_)
    obtain ⟨v2, e_v2, hok⟩ := gOk_let hok
    refine lv_iinc (v := v2) (lv' := [(3, .int v2), (0, .ref x0), (1, .int x1), (2, .ref x2)]) fx.1 fx.2.1 dX6_pass_12 hl (k := 3) rfl (by rw [e_v2]; rfl) (by decide) rfl (fun ls hl => ?_)
    refine lv_goto (tgt := 2) fx.1 fx.2.1 dX6_pass_15 (by decide) ?_
    exact hc v2 G1 _ _ _  hw (lv_sub hl [1, 2, 3, 0] rfl) (gOk_some hok)
theorem w_l_X6_pass_2 {X : gX} {τ : gτ} {p : Program} {l : Launch} {e : Env} {s : State} {m : MethodId} {args : Array Value} {below : List Frame} {meth : Method} {c : Code} (fx : gFx X p s m args meth c cX6_pass 4 RX6) (n : Nat) (x0 : Nat) (x1 : Int32) (x2 : Nat) (h0 : gK τ x0 6) (h2 : gK τ x2 1) {Q : State → Prop} {K : ((gG)) → Prop} (hx0 : ∀ (G : gG) (H : Heap) (locs : List Loc) (ls : Array Slot), gHw X τ G H locs → lv_has ls 4 [] → K G → W p l e rm_X6_pass s m args below meth c H locs 0 0 Q (F0 m 18 ls [])) : ∀ (k : Nat) (x3 : Int32) (G : gG) (H : Heap) (locs : List Loc) (ls : Array Slot), gHw X τ G H locs → lv_has ls 4 [(0, .ref x0), (1, .int x1), (2, .ref x2), (3, .int x3)] → gOk (gIter (fun (q : Int32 × gG) => b_X6_pass_2 τ n x0 x1 x2 q.1 q.2) k (x3, G)) K → W p l e rm_X6_pass s m args below meth c H locs 0 0 Q (F0 m 2 ls []) := by
  intro k
  induction k with
  | zero =>
    intro x3 G H locs ls hw hl hok
    exact gOk_iter0 hok
  | succ k hc =>
    intro x3 G H locs ls hw hl hok
    exact w_b_X6_pass_2 fx n x0 x1 x2 x3 h0 h2 hw hl (gOk_iter hok) hc hx0
set_option maxHeartbeats 4000000 in
set_option maxRecDepth 100000 in
theorem c_X6_pass (l : Launch) (X : gX) (τ : gτ) (n : Nat) (x0 : Nat) (x1 : Int32) (x2 : Nat) (G : gG) (h0 : gK τ x0 6) (h2 : gK τ x2 1) {G' : gG} (h : f_X6_pass τ n x0 x1 x2 G = some G') : gM l X τ yX6_pass cX6_pass 4 none rm_X6_pass [.ref x0, .int x1, .ref x2] G none G' := by
  refine g_body (by decide +kernel) (Nat.le_of_ble_eq_true rfl) ?_
  intro p e s m args below meth c ls fx hr hw hl
  have fx : gFx X p s m args meth c cX6_pass 4 RX6 := fx
  have hl : lv_has ls 4 [(0, .ref x0), (1, .int x1), (2, .ref x2)] := hl
  have hok : gOk (f_X6_pass τ n x0 x1 x2 G) (fun q => q = G') := ⟨_, h, rfl⟩
  unfold f_X6_pass at hok
  show W p l e rm_X6_pass s m args below meth c s.heap [] 0 0 (MQ below (gQ X τ none G') args s 0 0 (gFree X)) _
  refine lv_iconst (v := 0) fx.1 fx.2.1 dX6_pass_0 (by decide) ?_
  refine lv_istore_n (lv' := [(3, .int (0 : Int32)), (0, .ref x0), (1, .int x1), (2, .ref x2)]) fx.1 fx.2.1 dX6_pass_1 rfl hl (by decide) rfl (fun ls hl => ?_)
  refine w_l_X6_pass_2 fx n x0 x1 x2 h0 h2 ?_ n (0 : Int32) G _ _ _  hw (lv_sub hl [1, 2, 3, 0] rfl) (gOk_bindK hok)
  intro G3 H locs ls hw hl hok
  have hok : gOk (ρ := gG) (some G3) _ := hok
  cases gOk_some hok
  exact g_vret fx hw hr dX6_pass_18
theorem dX7_append_0 : decode cX7_append 0 = .ok (.bipush 24, 2) := by decide +kernel
theorem dX7_append_2 : decode cX7_append 2 = .ok (.istore_n 2, 1) := by decide +kernel
theorem dX7_append_3 : decode cX7_append 3 = .ok (.iload_n 2, 1) := by decide +kernel
theorem dX7_append_4 : decode cX7_append 4 = .ok (.ifCond .lt 45, 3) := by decide +kernel
theorem dX7_append_7 : decode cX7_append 7 = .ok (.aload_n 0, 1) := by decide +kernel
theorem dX7_append_8 : decode cX7_append 8 = .ok (.getfield 19, 3) := by decide +kernel
theorem dX7_append_11 : decode cX7_append 11 = .ok (.sipush 400, 3) := by decide +kernel
theorem dX7_append_14 : decode cX7_append 14 = .ok (.if_icmp .ge 35, 3) := by decide +kernel
theorem dX7_append_17 : decode cX7_append 17 = .ok (.aload_n 0, 1) := by decide +kernel
theorem dX7_append_18 : decode cX7_append 18 = .ok (.getfield 9, 3) := by decide +kernel
theorem dX7_append_21 : decode cX7_append 21 = .ok (.aload_n 0, 1) := by decide +kernel
theorem dX7_append_22 : decode cX7_append 22 = .ok (.getfield 19, 3) := by decide +kernel
theorem dX7_append_25 : decode cX7_append 25 = .ok (.iload_n 1, 1) := by decide +kernel
theorem dX7_append_26 : decode cX7_append 26 = .ok (.iload_n 2, 1) := by decide +kernel
theorem dX7_append_27 : decode cX7_append 27 = .ok (.iushr, 1) := by decide +kernel
theorem dX7_append_28 : decode cX7_append 28 = .ok (.sipush 255, 3) := by decide +kernel
theorem dX7_append_31 : decode cX7_append 31 = .ok (.iand, 1) := by decide +kernel
theorem dX7_append_32 : decode cX7_append 32 = .ok (.iastore, 1) := by decide +kernel
theorem dX7_append_33 : decode cX7_append 33 = .ok (.aload_n 0, 1) := by decide +kernel
theorem dX7_append_34 : decode cX7_append 34 = .ok (.dup, 1) := by decide +kernel
theorem dX7_append_35 : decode cX7_append 35 = .ok (.getfield 19, 3) := by decide +kernel
theorem dX7_append_38 : decode cX7_append 38 = .ok (.iconst 1, 1) := by decide +kernel
theorem dX7_append_39 : decode cX7_append 39 = .ok (.iadd, 1) := by decide +kernel
theorem dX7_append_40 : decode cX7_append 40 = .ok (.putfield 19, 3) := by decide +kernel
theorem dX7_append_43 : decode cX7_append 43 = .ok (.iinc 2 (-8), 3) := by decide +kernel
theorem dX7_append_46 : decode cX7_append 46 = .ok (.goto (-43), 3) := by decide +kernel
theorem dX7_append_49 : decode cX7_append 49 = .ok (.return_, 1) := by decide +kernel
theorem lp_RX7_19 : gLp RX7 19 7 1 := ⟨(RX7, TX7, 6), rfl, by decide, wA_t (wt1 (List.mem_of_getElem? (i := 44) (by decide +kernel))) (by decide +kernel), rfl, rfl⟩
def rm_X7_append : Room := { frames := 0, cells := 0, slots := 0, locals := 0 }
def b_X7_append_3 (τ : gτ) (n : Nat) (x0 : Nat) (x1 : Int32) (x2 : Int32) (G : gG) : Option ((Int32 × gG) ⊕ ((gG))) :=
  if x2 < 0 then (some (.inr G))
  else (if (400 : Int32) ≤ (gi G 7 1 x0) then (some (.inr G))
  else ((gr G 7 0 x0).bind fun a1 =>
  gchk (gIn (gi G 7 1 x0) (gn τ a1)) <| gLet (gse G a1 (Int32.toNatClampNeg (gi G 7 1 x0)) (((Int32.toUInt32 x1 >>> (Int32.toUInt32 x2 &&& Int32.toUInt32 31)).toInt32) &&& (255 : Int32))) fun G2 =>
  gLet (gsi G2 7 1 x0 ((gi G2 7 1 x0) + (1 : Int32))) fun G3 =>
  gLet (x2 + (-8)) fun v4 =>
  some (.inl (v4, G3))))
def l_X7_append_3 (τ : gτ) (n : Nat) (x0 : Nat) (x1 : Int32) (x2 : Int32) (G : gG) : Option ((gG)) :=
  gIter (fun (q : Int32 × gG) => b_X7_append_3 τ n x0 x1 q.1 q.2) n (x2, G)
def f_X7_append (τ : gτ) (n : Nat) (x0 : Nat) (x1 : Int32) (G : gG) : Option (gG) :=
  (l_X7_append_3 τ n x0 x1 (24 : Int32) G).bind fun q => gLet q fun G5 => 
  some G5
set_option maxHeartbeats 4000000 in
set_option maxRecDepth 100000 in
theorem w_b_X7_append_3 {X : gX} {τ : gτ} {p : Program} {l : Launch} {e : Env} {s : State} {m : MethodId} {args : Array Value} {below : List Frame} {meth : Method} {c : Code} (fx : gFx X p s m args meth c cX7_append 3 RX7) (n : Nat) (x0 : Nat) (x1 : Int32) (x2 : Int32) (h0 : gK τ x0 7) {Q : State → Prop} {K : ((Int32 × gG) ⊕ ((gG))) → Prop} {G : gG} {H : Heap} {locs : List Loc} {ls : Array Slot} (hw : gHw X τ G H locs) (hl : lv_has ls 3 [(0, .ref x0), (1, .int x1), (2, .int x2)]) (hok : gOk (b_X7_append_3 τ n x0 x1 x2 G) K) (hc : ∀ (y2 : Int32) (G : gG) (H : Heap) (locs : List Loc) (ls : Array Slot), gHw X τ G H locs → lv_has ls 3 [(0, .ref x0), (1, .int x1), (2, .int y2)] → K (.inl (y2, G)) → W p l e rm_X7_append s m args below meth c H locs 0 0 Q (F0 m 3 ls [])) (hx0 : ∀ (G : gG) (H : Heap) (locs : List Loc) (ls : Array Slot), gHw X τ G H locs → lv_has ls 3 [] → K (.inr G) → W p l e rm_X7_append s m args below meth c H locs 0 0 Q (F0 m 49 ls [])) : W p l e rm_X7_append s m args below meth c H locs 0 0 Q (F0 m 3 ls []) := by
  unfold b_X7_append_3 at hok
  refine lv_iload_n fx.1 fx.2.1 dX7_append_3 rfl (lv_at hl 2 rfl) ?_
  refine g_if_lt (tgt := 49) fx dX7_append_4 (by decide) hok (fun hok => ?_) (fun hok => ?_)
  · exact hx0  G _ _ _  hw (lv_sub hl [] rfl) (gOk_some hok)
  · refine lv_aload_n fx.1 fx.2.1 dX7_append_7 rfl (lv_at hl 0 rfl) ?_
    refine g_geti fx hw h0 lf_RX7_19 rfl dX7_append_8 ?_
    refine lv_sipush (v := 400) fx.1 fx.2.1 dX7_append_11 (by decide) ?_
    refine g_icmp_ge (tgt := 49) fx dX7_append_14 (by decide) hok (fun hok => ?_) (fun hok => ?_)
    · exact hx0  G _ _ _  hw (lv_sub hl [] rfl) (gOk_some hok)
    · refine lv_aload_n fx.1 fx.2.1 dX7_append_17 rfl (lv_at hl 0 rfl) ?_
      refine g_getr fx hw h0 lf_RX7_9 rfl dX7_append_18 hok (fun a1 h_a1 hok => ?_)
      refine lv_aload_n fx.1 fx.2.1 dX7_append_21 rfl (lv_at hl 0 rfl) ?_
      refine g_geti fx hw h0 lf_RX7_19 rfl dX7_append_22 ?_
      refine lv_iload_n fx.1 fx.2.1 dX7_append_25 rfl (lv_at hl 1 rfl) ?_
      refine lv_iload_n fx.1 fx.2.1 dX7_append_26 rfl (lv_at hl 2 rfl) ?_
      refine lv_iushr fx.1 fx.2.1 dX7_append_27 rfl ?_
      refine lv_sipush (v := 255) fx.1 fx.2.1 dX7_append_28 (by decide) ?_
      refine lv_iand fx.1 fx.2.1 dX7_append_31 ?_
      refine g_iast fx hw h_a1 dX7_append_32 hok (fun G2 H locs hw hok => ?_)
      refine lv_aload_n fx.1 fx.2.1 dX7_append_33 rfl (lv_at hl 0 rfl) ?_
      refine lv_dup fx.1 fx.2.1 dX7_append_34 rfl ?_
      refine g_geti fx hw h0 lf_RX7_19 rfl dX7_append_35 ?_
      refine lv_iconst (v := 1) fx.1 fx.2.1 dX7_append_38 (by decide) ?_
      refine lv_iadd fx.1 fx.2.1 dX7_append_39 ?_
      refine g_puti fx hw h0 lp_RX7_19 rfl rfl dX7_append_40 hok (fun G3 H locs hw hok => ?_)
      obtain ⟨v4, e_v4, hok⟩ := gOk_let hok
      refine lv_iinc (v := v4) (lv' := [(2, .int v4), (0, .ref x0), (1, .int x1)]) fx.1 fx.2.1 dX7_append_43 hl (k := 2) rfl (by rw [e_v4]; rfl) (by decide) rfl (fun ls hl => ?_)
      refine lv_goto (tgt := 3) fx.1 fx.2.1 dX7_append_46 (by decide) ?_
      exact hc v4 G3 _ _ _  hw (lv_sub hl [1, 2, 0] rfl) (gOk_some hok)
theorem w_l_X7_append_3 {X : gX} {τ : gτ} {p : Program} {l : Launch} {e : Env} {s : State} {m : MethodId} {args : Array Value} {below : List Frame} {meth : Method} {c : Code} (fx : gFx X p s m args meth c cX7_append 3 RX7) (n : Nat) (x0 : Nat) (x1 : Int32) (h0 : gK τ x0 7) {Q : State → Prop} {K : ((gG)) → Prop} (hx0 : ∀ (G : gG) (H : Heap) (locs : List Loc) (ls : Array Slot), gHw X τ G H locs → lv_has ls 3 [] → K G → W p l e rm_X7_append s m args below meth c H locs 0 0 Q (F0 m 49 ls [])) : ∀ (k : Nat) (x2 : Int32) (G : gG) (H : Heap) (locs : List Loc) (ls : Array Slot), gHw X τ G H locs → lv_has ls 3 [(0, .ref x0), (1, .int x1), (2, .int x2)] → gOk (gIter (fun (q : Int32 × gG) => b_X7_append_3 τ n x0 x1 q.1 q.2) k (x2, G)) K → W p l e rm_X7_append s m args below meth c H locs 0 0 Q (F0 m 3 ls []) := by
  intro k
  induction k with
  | zero =>
    intro x2 G H locs ls hw hl hok
    exact gOk_iter0 hok
  | succ k hc =>
    intro x2 G H locs ls hw hl hok
    exact w_b_X7_append_3 fx n x0 x1 x2 h0 hw hl (gOk_iter hok) hc hx0
set_option maxHeartbeats 4000000 in
set_option maxRecDepth 100000 in
theorem c_X7_append (l : Launch) (X : gX) (τ : gτ) (n : Nat) (x0 : Nat) (x1 : Int32) (G : gG) (h0 : gK τ x0 7) {G' : gG} (h : f_X7_append τ n x0 x1 G = some G') : gM l X τ yX7_append cX7_append 3 none rm_X7_append [.ref x0, .int x1] G none G' := by
  refine g_body (by decide +kernel) (Nat.le_of_ble_eq_true rfl) ?_
  intro p e s m args below meth c ls fx hr hw hl
  have fx : gFx X p s m args meth c cX7_append 3 RX7 := fx
  have hl : lv_has ls 3 [(0, .ref x0), (1, .int x1)] := hl
  have hok : gOk (f_X7_append τ n x0 x1 G) (fun q => q = G') := ⟨_, h, rfl⟩
  unfold f_X7_append at hok
  show W p l e rm_X7_append s m args below meth c s.heap [] 0 0 (MQ below (gQ X τ none G') args s 0 0 (gFree X)) _
  refine lv_bipush (v := 24) fx.1 fx.2.1 dX7_append_0 (by decide) ?_
  refine lv_istore_n (lv' := [(2, .int (24 : Int32)), (0, .ref x0), (1, .int x1)]) fx.1 fx.2.1 dX7_append_2 rfl hl (by decide) rfl (fun ls hl => ?_)
  refine w_l_X7_append_3 fx n x0 x1 h0 ?_ n (24 : Int32) G _ _ _  hw (lv_sub hl [1, 2, 0] rfl) (gOk_bindK hok)
  intro G5 H locs ls hw hl hok
  have hok : gOk (ρ := gG) (some G5) _ := hok
  cases gOk_some hok
  exact g_vret fx hw hr dX7_append_49
theorem dX8_readYarn_0 : decode cX8_readYarn 0 = .ok (.aload_n 0, 1) := by decide +kernel
theorem dX8_readYarn_1 : decode cX8_readYarn 1 = .ok (.getfield 9, 3) := by decide +kernel
theorem dX8_readYarn_4 : decode cX8_readYarn 4 = .ok (.iconst 1, 1) := by decide +kernel
theorem dX8_readYarn_5 : decode cX8_readYarn 5 = .ok (.bipush 30, 2) := by decide +kernel
theorem dX8_readYarn_7 : decode cX8_readYarn 7 = .ok (.invokevirtual 88, 3) := by decide +kernel
theorem dX8_readYarn_10 : decode cX8_readYarn 10 = .ok (.istore_n 1, 1) := by decide +kernel
theorem dX8_readYarn_11 : decode cX8_readYarn 11 = .ok (.aload_n 0, 1) := by decide +kernel
theorem dX8_readYarn_12 : decode cX8_readYarn 12 = .ok (.getfield 9, 3) := by decide +kernel
theorem dX8_readYarn_15 : decode cX8_readYarn 15 = .ok (.ldc 98, 2) := by decide +kernel
theorem dX8_readYarn_17 : decode cX8_readYarn 17 = .ok (.invokevirtual 100, 3) := by decide +kernel
theorem dX8_readYarn_20 : decode cX8_readYarn 20 = .ok (.aload_n 0, 1) := by decide +kernel
theorem dX8_readYarn_21 : decode cX8_readYarn 21 = .ok (.getfield 9, 3) := by decide +kernel
theorem dX8_readYarn_24 : decode cX8_readYarn 24 = .ok (.iconst 0, 1) := by decide +kernel
theorem dX8_readYarn_25 : decode cX8_readYarn 25 = .ok (.sipush 200, 3) := by decide +kernel
theorem dX8_readYarn_28 : decode cX8_readYarn 28 = .ok (.invokevirtual 88, 3) := by decide +kernel
theorem dX8_readYarn_31 : decode cX8_readYarn 31 = .ok (.istore_n 2, 1) := by decide +kernel
theorem dX8_readYarn_32 : decode cX8_readYarn 32 = .ok (.aload_n 0, 1) := by decide +kernel
theorem dX8_readYarn_33 : decode cX8_readYarn 33 = .ok (.getfield 9, 3) := by decide +kernel
theorem dX8_readYarn_36 : decode cX8_readYarn 36 = .ok (.ldc 104, 2) := by decide +kernel
theorem dX8_readYarn_38 : decode cX8_readYarn 38 = .ok (.invokevirtual 100, 3) := by decide +kernel
theorem dX8_readYarn_41 : decode cX8_readYarn 41 = .ok (.aload_n 0, 1) := by decide +kernel
theorem dX8_readYarn_42 : decode cX8_readYarn 42 = .ok (.getfield 9, 3) := by decide +kernel
theorem dX8_readYarn_45 : decode cX8_readYarn 45 = .ok (.iconst 0, 1) := by decide +kernel
theorem dX8_readYarn_46 : decode cX8_readYarn 46 = .ok (.bipush 9, 2) := by decide +kernel
theorem dX8_readYarn_48 : decode cX8_readYarn 48 = .ok (.invokevirtual 88, 3) := by decide +kernel
theorem dX8_readYarn_51 : decode cX8_readYarn 51 = .ok (.istore_n 3, 1) := by decide +kernel
theorem dX8_readYarn_52 : decode cX8_readYarn 52 = .ok (.aload_n 0, 1) := by decide +kernel
theorem dX8_readYarn_53 : decode cX8_readYarn 53 = .ok (.getfield 9, 3) := by decide +kernel
theorem dX8_readYarn_56 : decode cX8_readYarn 56 = .ok (.ldc 106, 2) := by decide +kernel
theorem dX8_readYarn_58 : decode cX8_readYarn 58 = .ok (.invokevirtual 100, 3) := by decide +kernel
theorem dX8_readYarn_61 : decode cX8_readYarn 61 = .ok (.aload_n 0, 1) := by decide +kernel
theorem dX8_readYarn_62 : decode cX8_readYarn 62 = .ok (.getfield 9, 3) := by decide +kernel
theorem dX8_readYarn_65 : decode cX8_readYarn 65 = .ok (.iconst 0, 1) := by decide +kernel
theorem dX8_readYarn_66 : decode cX8_readYarn 66 = .ok (.iconst 5, 1) := by decide +kernel
theorem dX8_readYarn_67 : decode cX8_readYarn 67 = .ok (.invokevirtual 88, 3) := by decide +kernel
theorem dX8_readYarn_70 : decode cX8_readYarn 70 = .ok (.istore 4, 2) := by decide +kernel
theorem dX8_readYarn_72 : decode cX8_readYarn 72 = .ok (.aload_n 0, 1) := by decide +kernel
theorem dX8_readYarn_73 : decode cX8_readYarn 73 = .ok (.getfield 9, 3) := by decide +kernel
theorem dX8_readYarn_76 : decode cX8_readYarn 76 = .ok (.invokevirtual 37, 3) := by decide +kernel
theorem dX8_readYarn_79 : decode cX8_readYarn 79 = .ok (.ifCond .eq 15, 3) := by decide +kernel
theorem dX8_readYarn_82 : decode cX8_readYarn 82 = .ok (.aload_n 0, 1) := by decide +kernel
theorem dX8_readYarn_83 : decode cX8_readYarn 83 = .ok (.getfield 15, 3) := by decide +kernel
theorem dX8_readYarn_86 : decode cX8_readYarn 86 = .ok (.iload_n 1, 1) := by decide +kernel
theorem dX8_readYarn_87 : decode cX8_readYarn 87 = .ok (.iload_n 2, 1) := by decide +kernel
theorem dX8_readYarn_88 : decode cX8_readYarn 88 = .ok (.iload_n 3, 1) := by decide +kernel
theorem dX8_readYarn_89 : decode cX8_readYarn 89 = .ok (.iload 4, 2) := by decide +kernel
theorem dX8_readYarn_91 : decode cX8_readYarn 91 = .ok (.invokevirtual 108, 3) := by decide +kernel
theorem dX8_readYarn_94 : decode cX8_readYarn 94 = .ok (.return_, 1) := by decide +kernel
theorem lf_RX8_9 : gLf RX8 9 8 0 := ⟨(RX8, TX8, 2), rfl, by decide, wA_t (wt1 (List.mem_of_getElem? (i := 72) (by decide +kernel))) (by decide +kernel), rfl⟩
theorem lv_RX8_88 : gLv RX8 88 RX7 yX7_takeNumber cX7_takeNumber 4 (some .int) 2 := gLv_of (wA_t (wt3 (List.mem_of_getElem? (i := 226) (by decide +kernel))) (by decide +kernel)) (wA_t (wt3 (List.mem_of_getElem? (i := 227) (by decide +kernel))) (by decide +kernel)) (wA_t (wt3 (List.mem_of_getElem? (i := 228) (by decide +kernel))) (by decide +kernel)) (wA_t (wt1 (List.mem_of_getElem? (i := 2) (by decide +kernel))) (by decide +kernel)) (wA_t (wt3 (List.mem_of_getElem? (i := 229) (by decide +kernel))) (by decide +kernel)) ⟨rfl, by decide +kernel, by decide +kernel, by decide +kernel⟩
theorem lv_RX8_100 : gLv RX8 100 RX7 yX7_needWord cX7_needWord 2 none 1 := gLv_of (wA_t (wt3 (List.mem_of_getElem? (i := 235) (by decide +kernel))) (by decide +kernel)) (wA_t (wt3 (List.mem_of_getElem? (i := 236) (by decide +kernel))) (by decide +kernel)) (wA_t (wt3 (List.mem_of_getElem? (i := 237) (by decide +kernel))) (by decide +kernel)) (wA_t (wt1 (List.mem_of_getElem? (i := 2) (by decide +kernel))) (by decide +kernel)) (wA_t (wt3 (List.mem_of_getElem? (i := 238) (by decide +kernel))) (by decide +kernel)) ⟨rfl, by decide +kernel, by decide +kernel, by decide +kernel⟩
theorem lv_RX8_37 : gLv RX8 37 RX7 yX7_isRight cX7_isRight 1 (some .boolean) 0 := gLv_of (wA_t (wt4 (List.mem_of_getElem? (i := 2) (by decide +kernel))) (by decide +kernel)) (wA_t (wt4 (List.mem_of_getElem? (i := 3) (by decide +kernel))) (by decide +kernel)) (wA_t (wt4 (List.mem_of_getElem? (i := 4) (by decide +kernel))) (by decide +kernel)) (wA_t (wt1 (List.mem_of_getElem? (i := 2) (by decide +kernel))) (by decide +kernel)) (wA_t (wt4 (List.mem_of_getElem? (i := 5) (by decide +kernel))) (by decide +kernel)) ⟨rfl, by decide +kernel, by decide +kernel, by decide +kernel⟩
theorem lf_RX8_15 : gLf RX8 15 8 1 := ⟨(RX8, TX8, 2), rfl, by decide, wA_t (wt1 (List.mem_of_getElem? (i := 73) (by decide +kernel))) (by decide +kernel), rfl⟩
theorem lv_RX8_108 : gLv RX8 108 RX6 yX6_addYarn cX6_addYarn 6 none 4 := gLv_of (wA_t (wt4 (List.mem_of_getElem? (i := 6) (by decide +kernel))) (by decide +kernel)) (wA_t (wt4 (List.mem_of_getElem? (i := 7) (by decide +kernel))) (by decide +kernel)) (wA_t (wt4 (List.mem_of_getElem? (i := 8) (by decide +kernel))) (by decide +kernel)) (wA_t (wt1 (List.mem_of_getElem? (i := 6) (by decide +kernel))) (by decide +kernel)) (wA_t (wt4 (List.mem_of_getElem? (i := 9) (by decide +kernel))) (by decide +kernel)) ⟨rfl, by decide +kernel, by decide +kernel, by decide +kernel⟩
def rm_X8_readYarn : Room := { frames := 6, cells := 0, slots := 0, locals := 203 }
def f_X8_readYarn (τ : gτ) (n : Nat) (x0 : Nat) (G : gG) : Option (gG) :=
  (gr G 8 0 x0).bind fun a1 =>
  gBind2 (f_X7_takeNumber τ n a1 (1 : Int32) (30 : Int32) G) fun v2 G3 =>
  (gr G3 8 0 x0).bind fun a4 =>
  (f_X7_needWord τ n a4 s_long G3).bind fun G6 =>
  (gr G6 8 0 x0).bind fun a7 =>
  gBind2 (f_X7_takeNumber τ n a7 (0 : Int32) (200 : Int32) G6) fun v8 G9 =>
  (gr G9 8 0 x0).bind fun a10 =>
  (f_X7_needWord τ n a10 s_rot G9).bind fun G12 =>
  (gr G12 8 0 x0).bind fun a13 =>
  gBind2 (f_X7_takeNumber τ n a13 (0 : Int32) (9 : Int32) G12) fun v14 G15 =>
  (gr G15 8 0 x0).bind fun a16 =>
  (f_X7_needWord τ n a16 s_reign G15).bind fun G18 =>
  (gr G18 8 0 x0).bind fun a19 =>
  gBind2 (f_X7_takeNumber τ n a19 (0 : Int32) (5 : Int32) G18) fun v20 G21 =>
  (gr G21 8 0 x0).bind fun a22 =>
  (f_X7_isRight a22 G21).bind fun v23 =>
  if v23 = 0 then (some G21)
  else ((gr G21 8 1 x0).bind fun a24 =>
  (f_X6_addYarn τ a24 v2 v8 v14 v20 G21).bind fun G25 =>
  some G25)
set_option maxHeartbeats 4000000 in
set_option maxRecDepth 100000 in
theorem c_X8_readYarn (l : Launch) (X : gX) (τ : gτ) (n : Nat) (hS : gS0 l X) (x0 : Nat) (G : gG) (h0 : gK τ x0 8) {G' : gG} (h : f_X8_readYarn τ n x0 G = some G') : gM l X τ yX8_readYarn cX8_readYarn 5 none rm_X8_readYarn [.ref x0] G none G' := by
  refine g_body (by decide +kernel) (Nat.le_of_ble_eq_true rfl) ?_
  intro p e s m args below meth c ls fx hr hw hl
  have fx : gFx X p s m args meth c cX8_readYarn 5 RX8 := fx
  have hl : lv_has ls 5 [(0, .ref x0)] := hl
  have hok : gOk (f_X8_readYarn τ n x0 G) (fun q => q = G') := ⟨_, h, rfl⟩
  unfold f_X8_readYarn at hok
  show W p l e rm_X8_readYarn s m args below meth c s.heap [] 0 0 (MQ below (gQ X τ none G') args s 0 0 (gFree X)) _
  refine lv_aload_n fx.1 fx.2.1 dX8_readYarn_0 rfl (lv_at hl 0 rfl) ?_
  refine g_getr fx hw h0 lf_RX8_9 rfl dX8_readYarn_1 hok (fun a1 h_a1 hok => ?_)
  refine lv_iconst (v := 1) fx.1 fx.2.1 dX8_readYarn_4 (by decide) ?_
  refine lv_bipush (v := 30) fx.1 fx.2.1 dX8_readYarn_5 (by decide) ?_
  obtain ⟨v2, G3, hf, hok⟩ := gOk_bind2 hok
  refine g_callV0 (κ := 7) fx hw (c_X7_takeNumber l X τ n a1 (1 : Int32) (30 : Int32) G h_a1 hf) lv_RX8_88 ⟨rfl, rfl⟩ rfl rfl h_a1 rfl hl.1 rfl ⟨Nat.le_of_ble_eq_true rfl, Nat.le_of_ble_eq_true rfl⟩ (Nat.le_of_ble_eq_true rfl) ⟨Nat.le_of_ble_eq_true rfl, Nat.le_of_ble_eq_true rfl⟩ dX8_readYarn_7 (fun H locs hw => ?_)
  refine lv_istore_n (lv' := [(1, .int v2), (0, .ref x0)]) fx.1 fx.2.1 dX8_readYarn_10 rfl hl (by decide) rfl (fun ls hl => ?_)
  refine lv_aload_n fx.1 fx.2.1 dX8_readYarn_11 rfl (lv_at hl 1 rfl) ?_
  refine g_getr fx hw h0 lf_RX8_9 rfl dX8_readYarn_12 hok (fun a4 h_a4 hok => ?_)
  refine g_ldcS fx hS gt_RX8_98 dX8_readYarn_15 (fun w5 h_w5 => ?_)
  obtain ⟨G6, hf, hok⟩ := gOk_bind hok
  refine g_callV0 (κ := 7) fx hw (c_X7_needWord l X τ n hS a4 s_long G3 h_a4 h_w5 hf) lv_RX8_100 ⟨rfl, rfl⟩ rfl rfl h_a4 rfl hl.1 rfl ⟨Nat.le_of_ble_eq_true rfl, Nat.le_of_ble_eq_true rfl⟩ (Nat.le_of_ble_eq_true rfl) ⟨Nat.le_of_ble_eq_true rfl, Nat.le_of_ble_eq_true rfl⟩ dX8_readYarn_17 (fun H locs hw => ?_)
  refine lv_aload_n fx.1 fx.2.1 dX8_readYarn_20 rfl (lv_at hl 1 rfl) ?_
  refine g_getr fx hw h0 lf_RX8_9 rfl dX8_readYarn_21 hok (fun a7 h_a7 hok => ?_)
  refine lv_iconst (v := 0) fx.1 fx.2.1 dX8_readYarn_24 (by decide) ?_
  refine lv_sipush (v := 200) fx.1 fx.2.1 dX8_readYarn_25 (by decide) ?_
  obtain ⟨v8, G9, hf, hok⟩ := gOk_bind2 hok
  refine g_callV0 (κ := 7) fx hw (c_X7_takeNumber l X τ n a7 (0 : Int32) (200 : Int32) G6 h_a7 hf) lv_RX8_88 ⟨rfl, rfl⟩ rfl rfl h_a7 rfl hl.1 rfl ⟨Nat.le_of_ble_eq_true rfl, Nat.le_of_ble_eq_true rfl⟩ (Nat.le_of_ble_eq_true rfl) ⟨Nat.le_of_ble_eq_true rfl, Nat.le_of_ble_eq_true rfl⟩ dX8_readYarn_28 (fun H locs hw => ?_)
  refine lv_istore_n (lv' := [(2, .int v8), (1, .int v2), (0, .ref x0)]) fx.1 fx.2.1 dX8_readYarn_31 rfl hl (by decide) rfl (fun ls hl => ?_)
  refine lv_aload_n fx.1 fx.2.1 dX8_readYarn_32 rfl (lv_at hl 2 rfl) ?_
  refine g_getr fx hw h0 lf_RX8_9 rfl dX8_readYarn_33 hok (fun a10 h_a10 hok => ?_)
  refine g_ldcS fx hS gt_RX8_104 dX8_readYarn_36 (fun w11 h_w11 => ?_)
  obtain ⟨G12, hf, hok⟩ := gOk_bind hok
  refine g_callV0 (κ := 7) fx hw (c_X7_needWord l X τ n hS a10 s_rot G9 h_a10 h_w11 hf) lv_RX8_100 ⟨rfl, rfl⟩ rfl rfl h_a10 rfl hl.1 rfl ⟨Nat.le_of_ble_eq_true rfl, Nat.le_of_ble_eq_true rfl⟩ (Nat.le_of_ble_eq_true rfl) ⟨Nat.le_of_ble_eq_true rfl, Nat.le_of_ble_eq_true rfl⟩ dX8_readYarn_38 (fun H locs hw => ?_)
  refine lv_aload_n fx.1 fx.2.1 dX8_readYarn_41 rfl (lv_at hl 2 rfl) ?_
  refine g_getr fx hw h0 lf_RX8_9 rfl dX8_readYarn_42 hok (fun a13 h_a13 hok => ?_)
  refine lv_iconst (v := 0) fx.1 fx.2.1 dX8_readYarn_45 (by decide) ?_
  refine lv_bipush (v := 9) fx.1 fx.2.1 dX8_readYarn_46 (by decide) ?_
  obtain ⟨v14, G15, hf, hok⟩ := gOk_bind2 hok
  refine g_callV0 (κ := 7) fx hw (c_X7_takeNumber l X τ n a13 (0 : Int32) (9 : Int32) G12 h_a13 hf) lv_RX8_88 ⟨rfl, rfl⟩ rfl rfl h_a13 rfl hl.1 rfl ⟨Nat.le_of_ble_eq_true rfl, Nat.le_of_ble_eq_true rfl⟩ (Nat.le_of_ble_eq_true rfl) ⟨Nat.le_of_ble_eq_true rfl, Nat.le_of_ble_eq_true rfl⟩ dX8_readYarn_48 (fun H locs hw => ?_)
  refine lv_istore_n (lv' := [(3, .int v14), (2, .int v8), (1, .int v2), (0, .ref x0)]) fx.1 fx.2.1 dX8_readYarn_51 rfl hl (by decide) rfl (fun ls hl => ?_)
  refine lv_aload_n fx.1 fx.2.1 dX8_readYarn_52 rfl (lv_at hl 3 rfl) ?_
  refine g_getr fx hw h0 lf_RX8_9 rfl dX8_readYarn_53 hok (fun a16 h_a16 hok => ?_)
  refine g_ldcS fx hS gt_RX8_106 dX8_readYarn_56 (fun w17 h_w17 => ?_)
  obtain ⟨G18, hf, hok⟩ := gOk_bind hok
  refine g_callV0 (κ := 7) fx hw (c_X7_needWord l X τ n hS a16 s_reign G15 h_a16 h_w17 hf) lv_RX8_100 ⟨rfl, rfl⟩ rfl rfl h_a16 rfl hl.1 rfl ⟨Nat.le_of_ble_eq_true rfl, Nat.le_of_ble_eq_true rfl⟩ (Nat.le_of_ble_eq_true rfl) ⟨Nat.le_of_ble_eq_true rfl, Nat.le_of_ble_eq_true rfl⟩ dX8_readYarn_58 (fun H locs hw => ?_)
  refine lv_aload_n fx.1 fx.2.1 dX8_readYarn_61 rfl (lv_at hl 3 rfl) ?_
  refine g_getr fx hw h0 lf_RX8_9 rfl dX8_readYarn_62 hok (fun a19 h_a19 hok => ?_)
  refine lv_iconst (v := 0) fx.1 fx.2.1 dX8_readYarn_65 (by decide) ?_
  refine lv_iconst (v := 5) fx.1 fx.2.1 dX8_readYarn_66 (by decide) ?_
  obtain ⟨v20, G21, hf, hok⟩ := gOk_bind2 hok
  refine g_callV0 (κ := 7) fx hw (c_X7_takeNumber l X τ n a19 (0 : Int32) (5 : Int32) G18 h_a19 hf) lv_RX8_88 ⟨rfl, rfl⟩ rfl rfl h_a19 rfl hl.1 rfl ⟨Nat.le_of_ble_eq_true rfl, Nat.le_of_ble_eq_true rfl⟩ (Nat.le_of_ble_eq_true rfl) ⟨Nat.le_of_ble_eq_true rfl, Nat.le_of_ble_eq_true rfl⟩ dX8_readYarn_67 (fun H locs hw => ?_)
  refine lv_istore (lv' := [(4, .int v20), (3, .int v14), (2, .int v8), (1, .int v2), (0, .ref x0)]) fx.1 fx.2.1 dX8_readYarn_70 hl (by decide) rfl (fun ls hl => ?_)
  refine lv_aload_n fx.1 fx.2.1 dX8_readYarn_72 rfl (lv_at hl 4 rfl) ?_
  refine g_getr fx hw h0 lf_RX8_9 rfl dX8_readYarn_73 hok (fun a22 h_a22 hok => ?_)
  obtain ⟨v23, hf, hok⟩ := gOk_bind hok
  refine g_callV0 (κ := 7) fx hw (c_X7_isRight l X τ a22 G21 h_a22 hf) lv_RX8_37 ⟨rfl, rfl⟩ rfl rfl h_a22 rfl hl.1 rfl ⟨Nat.le_of_ble_eq_true rfl, Nat.le_of_ble_eq_true rfl⟩ (Nat.le_of_ble_eq_true rfl) ⟨Nat.le_of_ble_eq_true rfl, Nat.le_of_ble_eq_true rfl⟩ dX8_readYarn_76 (fun H locs hw => ?_)
  refine g_if_eq (tgt := 94) fx dX8_readYarn_79 (by decide) hok (fun hok => ?_) (fun hok => ?_)
  · cases gOk_some hok
    exact g_vret fx hw hr dX8_readYarn_94
  · refine lv_aload_n fx.1 fx.2.1 dX8_readYarn_82 rfl (lv_at hl 4 rfl) ?_
    refine g_getr fx hw h0 lf_RX8_15 rfl dX8_readYarn_83 hok (fun a24 h_a24 hok => ?_)
    refine lv_iload_n fx.1 fx.2.1 dX8_readYarn_86 rfl (lv_at hl 3 rfl) ?_
    refine lv_iload_n fx.1 fx.2.1 dX8_readYarn_87 rfl (lv_at hl 2 rfl) ?_
    refine lv_iload_n fx.1 fx.2.1 dX8_readYarn_88 rfl (lv_at hl 1 rfl) ?_
    refine lv_iload fx.1 fx.2.1 dX8_readYarn_89 (lv_at hl 0 rfl) ?_
    obtain ⟨G25, hf, hok⟩ := gOk_bind hok
    refine g_callV0 (κ := 6) fx hw (c_X6_addYarn l X τ a24 v2 v8 v14 v20 G21 h_a24 hf) lv_RX8_108 ⟨rfl, rfl⟩ rfl rfl h_a24 rfl hl.1 rfl ⟨Nat.le_of_ble_eq_true rfl, Nat.le_of_ble_eq_true rfl⟩ (Nat.le_of_ble_eq_true rfl) ⟨Nat.le_of_ble_eq_true rfl, Nat.le_of_ble_eq_true rfl⟩ dX8_readYarn_91 (fun H locs hw => ?_)
    cases gOk_some hok
    exact g_vret fx hw hr dX8_readYarn_94
theorem dX8_takeYarn_0 : decode cX8_takeYarn 0 = .ok (.aload_n 0, 1) := by decide +kernel
theorem dX8_takeYarn_1 : decode cX8_takeYarn 1 = .ok (.getfield 9, 3) := by decide +kernel
theorem dX8_takeYarn_4 : decode cX8_takeYarn 4 = .ok (.getfield 123, 3) := by decide +kernel
theorem dX8_takeYarn_7 : decode cX8_takeYarn 7 = .ok (.iload_n 1, 1) := by decide +kernel
theorem dX8_takeYarn_8 : decode cX8_takeYarn 8 = .ok (.if_icmp .eq 14, 3) := by decide +kernel
theorem dX8_takeYarn_11 : decode cX8_takeYarn 11 = .ok (.aload_n 0, 1) := by decide +kernel
theorem dX8_takeYarn_12 : decode cX8_takeYarn 12 = .ok (.getfield 9, 3) := by decide +kernel
theorem dX8_takeYarn_15 : decode cX8_takeYarn 15 = .ok (.getfield 123, 3) := by decide +kernel
theorem dX8_takeYarn_18 : decode cX8_takeYarn 18 = .ok (.iload_n 2, 1) := by decide +kernel
theorem dX8_takeYarn_19 : decode cX8_takeYarn 19 = .ok (.if_icmp .ne 10, 3) := by decide +kernel
theorem dX8_takeYarn_22 : decode cX8_takeYarn 22 = .ok (.aload_n 0, 1) := by decide +kernel
theorem dX8_takeYarn_23 : decode cX8_takeYarn 23 = .ok (.getfield 9, 3) := by decide +kernel
theorem dX8_takeYarn_26 : decode cX8_takeYarn 26 = .ok (.invokevirtual 34, 3) := by decide +kernel
theorem dX8_takeYarn_29 : decode cX8_takeYarn 29 = .ok (.aload_n 0, 1) := by decide +kernel
theorem dX8_takeYarn_30 : decode cX8_takeYarn 30 = .ok (.getfield 9, 3) := by decide +kernel
theorem dX8_takeYarn_33 : decode cX8_takeYarn 33 = .ok (.iconst 0, 1) := by decide +kernel
theorem dX8_takeYarn_34 : decode cX8_takeYarn 34 = .ok (.aload_n 0, 1) := by decide +kernel
theorem dX8_takeYarn_35 : decode cX8_takeYarn 35 = .ok (.getfield 15, 3) := by decide +kernel
theorem dX8_takeYarn_38 : decode cX8_takeYarn 38 = .ok (.getfield 40, 3) := by decide +kernel
theorem dX8_takeYarn_41 : decode cX8_takeYarn 41 = .ok (.iconst 1, 1) := by decide +kernel
theorem dX8_takeYarn_42 : decode cX8_takeYarn 42 = .ok (.isub, 1) := by decide +kernel
theorem dX8_takeYarn_43 : decode cX8_takeYarn 43 = .ok (.invokevirtual 88, 3) := by decide +kernel
theorem dX8_takeYarn_46 : decode cX8_takeYarn 46 = .ok (.ireturn, 1) := by decide +kernel
theorem lf_RX8_123 : gLf RX8 123 7 5 := ⟨(RX7, TX7, 6), rfl, by decide, wA_t (wt1 (List.mem_of_getElem? (i := 51) (by decide +kernel))) (by decide +kernel), rfl⟩
theorem lv_RX8_34 : gLv RX8 34 RX7 yX7_refuse cX7_refuse 1 none 0 := gLv_of (wA_t (wt4 (List.mem_of_getElem? (i := 19) (by decide +kernel))) (by decide +kernel)) (wA_t (wt3 (List.mem_of_getElem? (i := 231) (by decide +kernel))) (by decide +kernel)) (wA_t (wt3 (List.mem_of_getElem? (i := 232) (by decide +kernel))) (by decide +kernel)) (wA_t (wt1 (List.mem_of_getElem? (i := 2) (by decide +kernel))) (by decide +kernel)) (wA_t (wt3 (List.mem_of_getElem? (i := 233) (by decide +kernel))) (by decide +kernel)) ⟨rfl, by decide +kernel, by decide +kernel, by decide +kernel⟩
theorem lf_RX8_40 : gLf RX8 40 6 4 := ⟨(RX6, TX6, 15), rfl, by decide, wA_t (wt2 (List.mem_of_getElem? (i := 17) (by decide +kernel))) (by decide +kernel), rfl⟩
def rm_X8_takeYarn : Room := { frames := 2, cells := 0, slots := 0, locals := 44 }
def k_X8_takeYarn_29 (τ : gτ) (n : Nat) (x0 : Nat)  (G : gG) : Option (Int32 × gG) :=
  (gr G 8 0 x0).bind fun a4 =>
  (gr G 8 1 x0).bind fun a5 =>
  gBind2 (f_X7_takeNumber τ n a4 (0 : Int32) ((gi G 6 4 a5) - (1 : Int32)) G) fun v6 G7 =>
  some (v6, G7)
def k_X8_takeYarn_22 (τ : gτ) (n : Nat) (x0 : Nat)  (G : gG) : Option (Int32 × gG) :=
  (gr G 8 0 x0).bind fun a2 =>
  (f_X7_refuse a2 G).bind fun G3 =>
  k_X8_takeYarn_29 τ n x0  G3
def f_X8_takeYarn (τ : gτ) (n : Nat) (x0 : Nat) (x1 : Int32) (x2 : Int32) (G : gG) : Option (Int32 × gG) :=
  (gr G 8 0 x0).bind fun a1 =>
  if (gi G 7 5 a1) = x1 then (k_X8_takeYarn_22 τ n x0  G)
  else ((gr G 8 0 x0).bind fun a8 =>
  if (gi G 7 5 a8) = x2 then (k_X8_takeYarn_22 τ n x0  G)
  else (k_X8_takeYarn_29 τ n x0  G))
set_option maxHeartbeats 4000000 in
set_option maxRecDepth 100000 in
theorem w_X8_takeYarn_29 {X : gX} {τ : gτ} {p : Program} {l : Launch} {e : Env} {s : State} {m : MethodId} {args : Array Value} {below : List Frame} {meth : Method} {c : Code} (fx : gFx X p s m args meth c cX8_takeYarn 3 RX8) (n : Nat) (x0 : Nat)  (h0 : gK τ x0 8)  (hr : meth.sig.returnType = (some .int)) {r : Int32} {G' : gG} {G : gG} {H : Heap} {locs : List Loc} {ls : Array Slot} (hw : gHw X τ G H locs) (hl : lv_has ls 3 [(0, .ref x0)]) (hok : gOk (k_X8_takeYarn_29 τ n x0  G) (fun q => q = (r, G')))  : W p l e rm_X8_takeYarn s m args below meth c H locs 0 0 (MQ below (gQ X τ (some (.int r)) G') args s 0 0 (gFree X)) (F0 m 29 ls []) := by
  unfold k_X8_takeYarn_29 at hok
  refine lv_aload_n fx.1 fx.2.1 dX8_takeYarn_29 rfl (lv_at hl 0 rfl) ?_
  refine g_getr fx hw h0 lf_RX8_9 rfl dX8_takeYarn_30 hok (fun a4 h_a4 hok => ?_)
  refine lv_iconst (v := 0) fx.1 fx.2.1 dX8_takeYarn_33 (by decide) ?_
  refine lv_aload_n fx.1 fx.2.1 dX8_takeYarn_34 rfl (lv_at hl 0 rfl) ?_
  refine g_getr fx hw h0 lf_RX8_15 rfl dX8_takeYarn_35 hok (fun a5 h_a5 hok => ?_)
  refine g_geti fx hw h_a5 lf_RX8_40 rfl dX8_takeYarn_38 ?_
  refine lv_iconst (v := 1) fx.1 fx.2.1 dX8_takeYarn_41 (by decide) ?_
  refine lv_isub fx.1 fx.2.1 dX8_takeYarn_42 ?_
  obtain ⟨v6, G7, hf, hok⟩ := gOk_bind2 hok
  refine g_callV0 (κ := 7) fx hw (c_X7_takeNumber l X τ n a4 (0 : Int32) ((gi G 6 4 a5) - (1 : Int32)) G h_a4 hf) lv_RX8_88 ⟨rfl, rfl⟩ rfl rfl h_a4 rfl hl.1 rfl ⟨Nat.le_of_ble_eq_true rfl, Nat.le_of_ble_eq_true rfl⟩ (Nat.le_of_ble_eq_true rfl) ⟨Nat.le_of_ble_eq_true rfl, Nat.le_of_ble_eq_true rfl⟩ dX8_takeYarn_43 (fun H locs hw => ?_)
  cases gOk_some hok
  exact g_iret fx hw hr dX8_takeYarn_46
set_option maxHeartbeats 4000000 in
set_option maxRecDepth 100000 in
theorem w_X8_takeYarn_22 {X : gX} {τ : gτ} {p : Program} {l : Launch} {e : Env} {s : State} {m : MethodId} {args : Array Value} {below : List Frame} {meth : Method} {c : Code} (fx : gFx X p s m args meth c cX8_takeYarn 3 RX8) (n : Nat) (x0 : Nat)  (h0 : gK τ x0 8)  (hr : meth.sig.returnType = (some .int)) {r : Int32} {G' : gG} {G : gG} {H : Heap} {locs : List Loc} {ls : Array Slot} (hw : gHw X τ G H locs) (hl : lv_has ls 3 [(0, .ref x0)]) (hok : gOk (k_X8_takeYarn_22 τ n x0  G) (fun q => q = (r, G')))  : W p l e rm_X8_takeYarn s m args below meth c H locs 0 0 (MQ below (gQ X τ (some (.int r)) G') args s 0 0 (gFree X)) (F0 m 22 ls []) := by
  unfold k_X8_takeYarn_22 at hok
  refine lv_aload_n fx.1 fx.2.1 dX8_takeYarn_22 rfl (lv_at hl 0 rfl) ?_
  refine g_getr fx hw h0 lf_RX8_9 rfl dX8_takeYarn_23 hok (fun a2 h_a2 hok => ?_)
  obtain ⟨G3, hf, hok⟩ := gOk_bind hok
  refine g_callV0 (κ := 7) fx hw (c_X7_refuse l X τ a2 G h_a2 hf) lv_RX8_34 ⟨rfl, rfl⟩ rfl rfl h_a2 rfl hl.1 rfl ⟨Nat.le_of_ble_eq_true rfl, Nat.le_of_ble_eq_true rfl⟩ (Nat.le_of_ble_eq_true rfl) ⟨Nat.le_of_ble_eq_true rfl, Nat.le_of_ble_eq_true rfl⟩ dX8_takeYarn_26 (fun H locs hw => ?_)
  exact w_X8_takeYarn_29 fx n x0  h0  hr hw (lv_sub hl [0] rfl) hok
set_option maxHeartbeats 4000000 in
set_option maxRecDepth 100000 in
theorem c_X8_takeYarn (l : Launch) (X : gX) (τ : gτ) (n : Nat) (x0 : Nat) (x1 : Int32) (x2 : Int32) (G : gG) (h0 : gK τ x0 8) {r : Int32} {G' : gG} (h : f_X8_takeYarn τ n x0 x1 x2 G = some (r, G')) : gM l X τ yX8_takeYarn cX8_takeYarn 3 (some .int) rm_X8_takeYarn [.ref x0, .int x1, .int x2] G (some (.int r)) G' := by
  refine g_body (by decide +kernel) (Nat.le_of_ble_eq_true rfl) ?_
  intro p e s m args below meth c ls fx hr hw hl
  have fx : gFx X p s m args meth c cX8_takeYarn 3 RX8 := fx
  have hl : lv_has ls 3 [(0, .ref x0), (1, .int x1), (2, .int x2)] := hl
  have hok : gOk (f_X8_takeYarn τ n x0 x1 x2 G) (fun q => q = (r, G')) := ⟨_, h, rfl⟩
  unfold f_X8_takeYarn at hok
  show W p l e rm_X8_takeYarn s m args below meth c s.heap [] 0 0 (MQ below (gQ X τ (some (.int r)) G') args s 0 0 (gFree X)) _
  refine lv_aload_n fx.1 fx.2.1 dX8_takeYarn_0 rfl (lv_at hl 0 rfl) ?_
  refine g_getr fx hw h0 lf_RX8_9 rfl dX8_takeYarn_1 hok (fun a1 h_a1 hok => ?_)
  refine g_geti fx hw h_a1 lf_RX8_123 rfl dX8_takeYarn_4 ?_
  refine lv_iload_n fx.1 fx.2.1 dX8_takeYarn_7 rfl (lv_at hl 1 rfl) ?_
  refine g_icmp_eq (tgt := 22) fx dX8_takeYarn_8 (by decide) hok (fun hok => ?_) (fun hok => ?_)
  · exact w_X8_takeYarn_22 fx n x0  h0  hr hw (lv_sub hl [0] rfl) hok
  · refine lv_aload_n fx.1 fx.2.1 dX8_takeYarn_11 rfl (lv_at hl 0 rfl) ?_
    refine g_getr fx hw h0 lf_RX8_9 rfl dX8_takeYarn_12 hok (fun a8 h_a8 hok => ?_)
    refine g_geti fx hw h_a8 lf_RX8_123 rfl dX8_takeYarn_15 ?_
    refine lv_iload_n fx.1 fx.2.1 dX8_takeYarn_18 rfl (lv_at hl 2 rfl) ?_
    refine g_icmp_ne (tgt := 29) fx dX8_takeYarn_19 (by decide) hok (fun hok => ?_) (fun hok => ?_)
    · exact w_X8_takeYarn_22 fx n x0  h0  hr hw (lv_sub hl [0] rfl) hok
    · exact w_X8_takeYarn_29 fx n x0  h0  hr hw (lv_sub hl [0] rfl) hok
theorem dX8_readRope_0 : decode cX8_readRope 0 = .ok (.aload_n 0, 1) := by decide +kernel
theorem dX8_readRope_1 : decode cX8_readRope 1 = .ok (.iconst (-1), 1) := by decide +kernel
theorem dX8_readRope_2 : decode cX8_readRope 2 = .ok (.iconst (-1), 1) := by decide +kernel
theorem dX8_readRope_3 : decode cX8_readRope 3 = .ok (.invokevirtual 112, 3) := by decide +kernel
theorem dX8_readRope_6 : decode cX8_readRope 6 = .ok (.istore_n 1, 1) := by decide +kernel
theorem dX8_readRope_7 : decode cX8_readRope 7 = .ok (.aload_n 0, 1) := by decide +kernel
theorem dX8_readRope_8 : decode cX8_readRope 8 = .ok (.iload_n 1, 1) := by decide +kernel
theorem dX8_readRope_9 : decode cX8_readRope 9 = .ok (.iconst (-1), 1) := by decide +kernel
theorem dX8_readRope_10 : decode cX8_readRope 10 = .ok (.invokevirtual 112, 3) := by decide +kernel
theorem dX8_readRope_13 : decode cX8_readRope 13 = .ok (.istore_n 2, 1) := by decide +kernel
theorem dX8_readRope_14 : decode cX8_readRope 14 = .ok (.aload_n 0, 1) := by decide +kernel
theorem dX8_readRope_15 : decode cX8_readRope 15 = .ok (.iload_n 1, 1) := by decide +kernel
theorem dX8_readRope_16 : decode cX8_readRope 16 = .ok (.iload_n 2, 1) := by decide +kernel
theorem dX8_readRope_17 : decode cX8_readRope 17 = .ok (.invokevirtual 112, 3) := by decide +kernel
theorem dX8_readRope_20 : decode cX8_readRope 20 = .ok (.istore_n 3, 1) := by decide +kernel
theorem dX8_readRope_21 : decode cX8_readRope 21 = .ok (.aload_n 0, 1) := by decide +kernel
theorem dX8_readRope_22 : decode cX8_readRope 22 = .ok (.getfield 9, 3) := by decide +kernel
theorem dX8_readRope_25 : decode cX8_readRope 25 = .ok (.ldc 98, 2) := by decide +kernel
theorem dX8_readRope_27 : decode cX8_readRope 27 = .ok (.invokevirtual 100, 3) := by decide +kernel
theorem dX8_readRope_30 : decode cX8_readRope 30 = .ok (.aload_n 0, 1) := by decide +kernel
theorem dX8_readRope_31 : decode cX8_readRope 31 = .ok (.getfield 9, 3) := by decide +kernel
theorem dX8_readRope_34 : decode cX8_readRope 34 = .ok (.iconst 1, 1) := by decide +kernel
theorem dX8_readRope_35 : decode cX8_readRope 35 = .ok (.aload_n 0, 1) := by decide +kernel
theorem dX8_readRope_36 : decode cX8_readRope 36 = .ok (.getfield 15, 3) := by decide +kernel
theorem dX8_readRope_39 : decode cX8_readRope 39 = .ok (.iload_n 1, 1) := by decide +kernel
theorem dX8_readRope_40 : decode cX8_readRope 40 = .ok (.iload_n 2, 1) := by decide +kernel
theorem dX8_readRope_41 : decode cX8_readRope 41 = .ok (.iload_n 3, 1) := by decide +kernel
theorem dX8_readRope_42 : decode cX8_readRope 42 = .ok (.invokevirtual 115, 3) := by decide +kernel
theorem dX8_readRope_45 : decode cX8_readRope 45 = .ok (.invokevirtual 88, 3) := by decide +kernel
theorem dX8_readRope_48 : decode cX8_readRope 48 = .ok (.istore 4, 2) := by decide +kernel
theorem dX8_readRope_50 : decode cX8_readRope 50 = .ok (.aload_n 0, 1) := by decide +kernel
theorem dX8_readRope_51 : decode cX8_readRope 51 = .ok (.getfield 9, 3) := by decide +kernel
theorem dX8_readRope_54 : decode cX8_readRope 54 = .ok (.invokevirtual 37, 3) := by decide +kernel
theorem dX8_readRope_57 : decode cX8_readRope 57 = .ok (.ifCond .eq 16, 3) := by decide +kernel
theorem dX8_readRope_60 : decode cX8_readRope 60 = .ok (.aload_n 0, 1) := by decide +kernel
theorem dX8_readRope_61 : decode cX8_readRope 61 = .ok (.getfield 15, 3) := by decide +kernel
theorem dX8_readRope_64 : decode cX8_readRope 64 = .ok (.iload_n 1, 1) := by decide +kernel
theorem dX8_readRope_65 : decode cX8_readRope 65 = .ok (.iload_n 2, 1) := by decide +kernel
theorem dX8_readRope_66 : decode cX8_readRope 66 = .ok (.iload_n 3, 1) := by decide +kernel
theorem dX8_readRope_67 : decode cX8_readRope 67 = .ok (.iload 4, 2) := by decide +kernel
theorem dX8_readRope_69 : decode cX8_readRope 69 = .ok (.invokevirtual 119, 3) := by decide +kernel
theorem dX8_readRope_72 : decode cX8_readRope 72 = .ok (.pop, 1) := by decide +kernel
theorem dX8_readRope_73 : decode cX8_readRope 73 = .ok (.return_, 1) := by decide +kernel
theorem lv_RX8_112 : gLv RX8 112 RX8 yX8_takeYarn cX8_takeYarn 3 (some .int) 2 := gLv_of (wA_t (wt4 (List.mem_of_getElem? (i := 15) (by decide +kernel))) (by decide +kernel)) (wA_t (wt4 (List.mem_of_getElem? (i := 17) (by decide +kernel))) (by decide +kernel)) (wA_of (List.mem_append_left _ (List.mem_map.mpr ⟨(⟨"YearRope$WalkReader", "takeYarn", "(II)I"⟩, 2), wp1 (List.mem_of_getElem? (i := 12) (by decide +kernel)), rfl⟩)) (by decide +kernel)) (wA_t (wt1 (List.mem_of_getElem? (i := 3) (by decide +kernel))) (by decide +kernel)) (wA_t (wt4 (List.mem_of_getElem? (i := 18) (by decide +kernel))) (by decide +kernel)) ⟨rfl, by decide +kernel, by decide +kernel, by decide +kernel⟩
theorem lv_RX8_115 : gLv RX8 115 RX6 yX6_shortest cX6_shortest 5 (some .int) 3 := gLv_of (wA_t (wt4 (List.mem_of_getElem? (i := 20) (by decide +kernel))) (by decide +kernel)) (wA_t (wt3 (List.mem_of_getElem? (i := 22) (by decide +kernel))) (by decide +kernel)) (wA_t (wt3 (List.mem_of_getElem? (i := 23) (by decide +kernel))) (by decide +kernel)) (wA_t (wt1 (List.mem_of_getElem? (i := 6) (by decide +kernel))) (by decide +kernel)) (wA_t (wt3 (List.mem_of_getElem? (i := 24) (by decide +kernel))) (by decide +kernel)) ⟨rfl, by decide +kernel, by decide +kernel, by decide +kernel⟩
theorem lv_RX8_119 : gLv RX8 119 RX6 yX6_addRope cX6_addRope 5 (some .int) 4 := gLv_of (wA_t (wt4 (List.mem_of_getElem? (i := 21) (by decide +kernel))) (by decide +kernel)) (wA_t (wt4 (List.mem_of_getElem? (i := 22) (by decide +kernel))) (by decide +kernel)) (wA_t (wt4 (List.mem_of_getElem? (i := 23) (by decide +kernel))) (by decide +kernel)) (wA_t (wt1 (List.mem_of_getElem? (i := 6) (by decide +kernel))) (by decide +kernel)) (wA_t (wt4 (List.mem_of_getElem? (i := 24) (by decide +kernel))) (by decide +kernel)) ⟨rfl, by decide +kernel, by decide +kernel, by decide +kernel⟩
def rm_X8_readRope : Room := { frames := 6, cells := 0, slots := 0, locals := 203 }
def f_X8_readRope (τ : gτ) (n : Nat) (x0 : Nat) (G : gG) : Option (gG) :=
  gBind2 (f_X8_takeYarn τ n x0 (-1 : Int32) (-1 : Int32) G) fun v1 G2 =>
  gBind2 (f_X8_takeYarn τ n x0 v1 (-1 : Int32) G2) fun v3 G4 =>
  gBind2 (f_X8_takeYarn τ n x0 v1 v3 G4) fun v5 G6 =>
  (gr G6 8 0 x0).bind fun a7 =>
  (f_X7_needWord τ n a7 s_long G6).bind fun G9 =>
  (gr G9 8 0 x0).bind fun a10 =>
  (gr G9 8 1 x0).bind fun a11 =>
  (f_X6_shortest τ a11 v1 v3 v5 G9).bind fun v12 =>
  gBind2 (f_X7_takeNumber τ n a10 (1 : Int32) v12 G9) fun v13 G14 =>
  (gr G14 8 0 x0).bind fun a15 =>
  (f_X7_isRight a15 G14).bind fun v16 =>
  if v16 = 0 then (some G14)
  else ((gr G14 8 1 x0).bind fun a17 =>
  gBind2 (f_X6_addRope τ a17 v1 v3 v5 v13 G14) fun v18 G19 =>
  some G19)
set_option maxHeartbeats 4000000 in
set_option maxRecDepth 100000 in
theorem c_X8_readRope (l : Launch) (X : gX) (τ : gτ) (n : Nat) (hS : gS0 l X) (x0 : Nat) (G : gG) (h0 : gK τ x0 8) {G' : gG} (h : f_X8_readRope τ n x0 G = some G') : gM l X τ yX8_readRope cX8_readRope 5 none rm_X8_readRope [.ref x0] G none G' := by
  refine g_body (by decide +kernel) (Nat.le_of_ble_eq_true rfl) ?_
  intro p e s m args below meth c ls fx hr hw hl
  have fx : gFx X p s m args meth c cX8_readRope 5 RX8 := fx
  have hl : lv_has ls 5 [(0, .ref x0)] := hl
  have hok : gOk (f_X8_readRope τ n x0 G) (fun q => q = G') := ⟨_, h, rfl⟩
  unfold f_X8_readRope at hok
  show W p l e rm_X8_readRope s m args below meth c s.heap [] 0 0 (MQ below (gQ X τ none G') args s 0 0 (gFree X)) _
  refine lv_aload_n fx.1 fx.2.1 dX8_readRope_0 rfl (lv_at hl 0 rfl) ?_
  refine lv_iconst (v := (-1)) fx.1 fx.2.1 dX8_readRope_1 (by decide) ?_
  refine lv_iconst (v := (-1)) fx.1 fx.2.1 dX8_readRope_2 (by decide) ?_
  obtain ⟨v1, G2, hf, hok⟩ := gOk_bind2 hok
  refine g_callV0 (κ := 8) fx hw (c_X8_takeYarn l X τ n x0 (-1 : Int32) (-1 : Int32) G h0 hf) lv_RX8_112 ⟨rfl, rfl⟩ rfl rfl h0 rfl hl.1 rfl ⟨Nat.le_of_ble_eq_true rfl, Nat.le_of_ble_eq_true rfl⟩ (Nat.le_of_ble_eq_true rfl) ⟨Nat.le_of_ble_eq_true rfl, Nat.le_of_ble_eq_true rfl⟩ dX8_readRope_3 (fun H locs hw => ?_)
  refine lv_istore_n (lv' := [(1, .int v1), (0, .ref x0)]) fx.1 fx.2.1 dX8_readRope_6 rfl hl (by decide) rfl (fun ls hl => ?_)
  refine lv_aload_n fx.1 fx.2.1 dX8_readRope_7 rfl (lv_at hl 1 rfl) ?_
  refine lv_iload_n fx.1 fx.2.1 dX8_readRope_8 rfl (lv_at hl 0 rfl) ?_
  refine lv_iconst (v := (-1)) fx.1 fx.2.1 dX8_readRope_9 (by decide) ?_
  obtain ⟨v3, G4, hf, hok⟩ := gOk_bind2 hok
  refine g_callV0 (κ := 8) fx hw (c_X8_takeYarn l X τ n x0 v1 (-1 : Int32) G2 h0 hf) lv_RX8_112 ⟨rfl, rfl⟩ rfl rfl h0 rfl hl.1 rfl ⟨Nat.le_of_ble_eq_true rfl, Nat.le_of_ble_eq_true rfl⟩ (Nat.le_of_ble_eq_true rfl) ⟨Nat.le_of_ble_eq_true rfl, Nat.le_of_ble_eq_true rfl⟩ dX8_readRope_10 (fun H locs hw => ?_)
  refine lv_istore_n (lv' := [(2, .int v3), (1, .int v1), (0, .ref x0)]) fx.1 fx.2.1 dX8_readRope_13 rfl hl (by decide) rfl (fun ls hl => ?_)
  refine lv_aload_n fx.1 fx.2.1 dX8_readRope_14 rfl (lv_at hl 2 rfl) ?_
  refine lv_iload_n fx.1 fx.2.1 dX8_readRope_15 rfl (lv_at hl 1 rfl) ?_
  refine lv_iload_n fx.1 fx.2.1 dX8_readRope_16 rfl (lv_at hl 0 rfl) ?_
  obtain ⟨v5, G6, hf, hok⟩ := gOk_bind2 hok
  refine g_callV0 (κ := 8) fx hw (c_X8_takeYarn l X τ n x0 v1 v3 G4 h0 hf) lv_RX8_112 ⟨rfl, rfl⟩ rfl rfl h0 rfl hl.1 rfl ⟨Nat.le_of_ble_eq_true rfl, Nat.le_of_ble_eq_true rfl⟩ (Nat.le_of_ble_eq_true rfl) ⟨Nat.le_of_ble_eq_true rfl, Nat.le_of_ble_eq_true rfl⟩ dX8_readRope_17 (fun H locs hw => ?_)
  refine lv_istore_n (lv' := [(3, .int v5), (2, .int v3), (1, .int v1), (0, .ref x0)]) fx.1 fx.2.1 dX8_readRope_20 rfl hl (by decide) rfl (fun ls hl => ?_)
  refine lv_aload_n fx.1 fx.2.1 dX8_readRope_21 rfl (lv_at hl 3 rfl) ?_
  refine g_getr fx hw h0 lf_RX8_9 rfl dX8_readRope_22 hok (fun a7 h_a7 hok => ?_)
  refine g_ldcS fx hS gt_RX8_98 dX8_readRope_25 (fun w8 h_w8 => ?_)
  obtain ⟨G9, hf, hok⟩ := gOk_bind hok
  refine g_callV0 (κ := 7) fx hw (c_X7_needWord l X τ n hS a7 s_long G6 h_a7 h_w8 hf) lv_RX8_100 ⟨rfl, rfl⟩ rfl rfl h_a7 rfl hl.1 rfl ⟨Nat.le_of_ble_eq_true rfl, Nat.le_of_ble_eq_true rfl⟩ (Nat.le_of_ble_eq_true rfl) ⟨Nat.le_of_ble_eq_true rfl, Nat.le_of_ble_eq_true rfl⟩ dX8_readRope_27 (fun H locs hw => ?_)
  refine lv_aload_n fx.1 fx.2.1 dX8_readRope_30 rfl (lv_at hl 3 rfl) ?_
  refine g_getr fx hw h0 lf_RX8_9 rfl dX8_readRope_31 hok (fun a10 h_a10 hok => ?_)
  refine lv_iconst (v := 1) fx.1 fx.2.1 dX8_readRope_34 (by decide) ?_
  refine lv_aload_n fx.1 fx.2.1 dX8_readRope_35 rfl (lv_at hl 3 rfl) ?_
  refine g_getr fx hw h0 lf_RX8_15 rfl dX8_readRope_36 hok (fun a11 h_a11 hok => ?_)
  refine lv_iload_n fx.1 fx.2.1 dX8_readRope_39 rfl (lv_at hl 2 rfl) ?_
  refine lv_iload_n fx.1 fx.2.1 dX8_readRope_40 rfl (lv_at hl 1 rfl) ?_
  refine lv_iload_n fx.1 fx.2.1 dX8_readRope_41 rfl (lv_at hl 0 rfl) ?_
  obtain ⟨v12, hf, hok⟩ := gOk_bind hok
  refine g_callV0 (κ := 6) fx hw (c_X6_shortest l X τ a11 v1 v3 v5 G9 h_a11 hf) lv_RX8_115 ⟨rfl, rfl⟩ rfl rfl h_a11 rfl hl.1 rfl ⟨Nat.le_of_ble_eq_true rfl, Nat.le_of_ble_eq_true rfl⟩ (Nat.le_of_ble_eq_true rfl) ⟨Nat.le_of_ble_eq_true rfl, Nat.le_of_ble_eq_true rfl⟩ dX8_readRope_42 (fun H locs hw => ?_)
  obtain ⟨v13, G14, hf, hok⟩ := gOk_bind2 hok
  refine g_callV0 (κ := 7) fx hw (c_X7_takeNumber l X τ n a10 (1 : Int32) v12 G9 h_a10 hf) lv_RX8_88 ⟨rfl, rfl⟩ rfl rfl h_a10 rfl hl.1 rfl ⟨Nat.le_of_ble_eq_true rfl, Nat.le_of_ble_eq_true rfl⟩ (Nat.le_of_ble_eq_true rfl) ⟨Nat.le_of_ble_eq_true rfl, Nat.le_of_ble_eq_true rfl⟩ dX8_readRope_45 (fun H locs hw => ?_)
  refine lv_istore (lv' := [(4, .int v13), (3, .int v5), (2, .int v3), (1, .int v1), (0, .ref x0)]) fx.1 fx.2.1 dX8_readRope_48 hl (by decide) rfl (fun ls hl => ?_)
  refine lv_aload_n fx.1 fx.2.1 dX8_readRope_50 rfl (lv_at hl 4 rfl) ?_
  refine g_getr fx hw h0 lf_RX8_9 rfl dX8_readRope_51 hok (fun a15 h_a15 hok => ?_)
  obtain ⟨v16, hf, hok⟩ := gOk_bind hok
  refine g_callV0 (κ := 7) fx hw (c_X7_isRight l X τ a15 G14 h_a15 hf) lv_RX8_37 ⟨rfl, rfl⟩ rfl rfl h_a15 rfl hl.1 rfl ⟨Nat.le_of_ble_eq_true rfl, Nat.le_of_ble_eq_true rfl⟩ (Nat.le_of_ble_eq_true rfl) ⟨Nat.le_of_ble_eq_true rfl, Nat.le_of_ble_eq_true rfl⟩ dX8_readRope_54 (fun H locs hw => ?_)
  refine g_if_eq (tgt := 73) fx dX8_readRope_57 (by decide) hok (fun hok => ?_) (fun hok => ?_)
  · cases gOk_some hok
    exact g_vret fx hw hr dX8_readRope_73
  · refine lv_aload_n fx.1 fx.2.1 dX8_readRope_60 rfl (lv_at hl 4 rfl) ?_
    refine g_getr fx hw h0 lf_RX8_15 rfl dX8_readRope_61 hok (fun a17 h_a17 hok => ?_)
    refine lv_iload_n fx.1 fx.2.1 dX8_readRope_64 rfl (lv_at hl 3 rfl) ?_
    refine lv_iload_n fx.1 fx.2.1 dX8_readRope_65 rfl (lv_at hl 2 rfl) ?_
    refine lv_iload_n fx.1 fx.2.1 dX8_readRope_66 rfl (lv_at hl 1 rfl) ?_
    refine lv_iload fx.1 fx.2.1 dX8_readRope_67 (lv_at hl 0 rfl) ?_
    obtain ⟨v18, G19, hf, hok⟩ := gOk_bind2 hok
    refine g_callV0 (κ := 6) fx hw (c_X6_addRope l X τ a17 v1 v3 v5 v13 G14 h_a17 hf) lv_RX8_119 ⟨rfl, rfl⟩ rfl rfl h_a17 rfl hl.1 rfl ⟨Nat.le_of_ble_eq_true rfl, Nat.le_of_ble_eq_true rfl⟩ (Nat.le_of_ble_eq_true rfl) ⟨Nat.le_of_ble_eq_true rfl, Nat.le_of_ble_eq_true rfl⟩ dX8_readRope_69 (fun H locs hw => ?_)
    refine lv_pop fx.1 fx.2.1 dX8_readRope_72 rfl ?_
    cases gOk_some hok
    exact g_vret fx hw hr dX8_readRope_73
theorem dX8_readOrder_0 : decode cX8_readOrder 0 = .ok (.aload_n 0, 1) := by decide +kernel
theorem dX8_readOrder_1 : decode cX8_readOrder 1 = .ok (.getfield 9, 3) := by decide +kernel
theorem dX8_readOrder_4 : decode cX8_readOrder 4 = .ok (.iconst 1, 1) := by decide +kernel
theorem dX8_readOrder_5 : decode cX8_readOrder 5 = .ok (.sipush 400, 3) := by decide +kernel
theorem dX8_readOrder_8 : decode cX8_readOrder 8 = .ok (.invokevirtual 88, 3) := by decide +kernel
theorem dX8_readOrder_11 : decode cX8_readOrder 11 = .ok (.istore_n 1, 1) := by decide +kernel
theorem dX8_readOrder_12 : decode cX8_readOrder 12 = .ok (.aload_n 0, 1) := by decide +kernel
theorem dX8_readOrder_13 : decode cX8_readOrder 13 = .ok (.getfield 9, 3) := by decide +kernel
theorem dX8_readOrder_16 : decode cX8_readOrder 16 = .ok (.ldc 98, 2) := by decide +kernel
theorem dX8_readOrder_18 : decode cX8_readOrder 18 = .ok (.invokevirtual 100, 3) := by decide +kernel
theorem dX8_readOrder_21 : decode cX8_readOrder 21 = .ok (.aload_n 0, 1) := by decide +kernel
theorem dX8_readOrder_22 : decode cX8_readOrder 22 = .ok (.getfield 9, 3) := by decide +kernel
theorem dX8_readOrder_25 : decode cX8_readOrder 25 = .ok (.iconst 1, 1) := by decide +kernel
theorem dX8_readOrder_26 : decode cX8_readOrder 26 = .ok (.bipush 60, 2) := by decide +kernel
theorem dX8_readOrder_28 : decode cX8_readOrder 28 = .ok (.invokevirtual 88, 3) := by decide +kernel
theorem dX8_readOrder_31 : decode cX8_readOrder 31 = .ok (.istore_n 2, 1) := by decide +kernel
theorem dX8_readOrder_32 : decode cX8_readOrder 32 = .ok (.aload_n 0, 1) := by decide +kernel
theorem dX8_readOrder_33 : decode cX8_readOrder 33 = .ok (.getfield 9, 3) := by decide +kernel
theorem dX8_readOrder_36 : decode cX8_readOrder 36 = .ok (.ldc 126, 2) := by decide +kernel
theorem dX8_readOrder_38 : decode cX8_readOrder 38 = .ok (.invokevirtual 100, 3) := by decide +kernel
theorem dX8_readOrder_41 : decode cX8_readOrder 41 = .ok (.aload_n 0, 1) := by decide +kernel
theorem dX8_readOrder_42 : decode cX8_readOrder 42 = .ok (.getfield 9, 3) := by decide +kernel
theorem dX8_readOrder_45 : decode cX8_readOrder 45 = .ok (.iconst 0, 1) := by decide +kernel
theorem dX8_readOrder_46 : decode cX8_readOrder 46 = .ok (.bipush 99, 2) := by decide +kernel
theorem dX8_readOrder_48 : decode cX8_readOrder 48 = .ok (.invokevirtual 88, 3) := by decide +kernel
theorem dX8_readOrder_51 : decode cX8_readOrder 51 = .ok (.istore_n 3, 1) := by decide +kernel
theorem dX8_readOrder_52 : decode cX8_readOrder 52 = .ok (.aload_n 0, 1) := by decide +kernel
theorem dX8_readOrder_53 : decode cX8_readOrder 53 = .ok (.getfield 9, 3) := by decide +kernel
theorem dX8_readOrder_56 : decode cX8_readOrder 56 = .ok (.invokevirtual 37, 3) := by decide +kernel
theorem dX8_readOrder_59 : decode cX8_readOrder 59 = .ok (.ifCond .eq 13, 3) := by decide +kernel
theorem dX8_readOrder_62 : decode cX8_readOrder 62 = .ok (.aload_n 0, 1) := by decide +kernel
theorem dX8_readOrder_63 : decode cX8_readOrder 63 = .ok (.getfield 15, 3) := by decide +kernel
theorem dX8_readOrder_66 : decode cX8_readOrder 66 = .ok (.iload_n 1, 1) := by decide +kernel
theorem dX8_readOrder_67 : decode cX8_readOrder 67 = .ok (.iload_n 2, 1) := by decide +kernel
theorem dX8_readOrder_68 : decode cX8_readOrder 68 = .ok (.iload_n 3, 1) := by decide +kernel
theorem dX8_readOrder_69 : decode cX8_readOrder 69 = .ok (.invokevirtual 128, 3) := by decide +kernel
theorem dX8_readOrder_72 : decode cX8_readOrder 72 = .ok (.return_, 1) := by decide +kernel
theorem lv_RX8_128 : gLv RX8 128 RX6 yX6_addOrder cX6_addOrder 5 none 3 := gLv_of (wA_t (wt4 (List.mem_of_getElem? (i := 32) (by decide +kernel))) (by decide +kernel)) (wA_t (wt4 (List.mem_of_getElem? (i := 33) (by decide +kernel))) (by decide +kernel)) (wA_t (wt4 (List.mem_of_getElem? (i := 34) (by decide +kernel))) (by decide +kernel)) (wA_t (wt1 (List.mem_of_getElem? (i := 6) (by decide +kernel))) (by decide +kernel)) (wA_t (wt4 (List.mem_of_getElem? (i := 35) (by decide +kernel))) (by decide +kernel)) ⟨rfl, by decide +kernel, by decide +kernel, by decide +kernel⟩
def rm_X8_readOrder : Room := { frames := 6, cells := 0, slots := 0, locals := 203 }
def f_X8_readOrder (τ : gτ) (n : Nat) (x0 : Nat) (G : gG) : Option (gG) :=
  (gr G 8 0 x0).bind fun a1 =>
  gBind2 (f_X7_takeNumber τ n a1 (1 : Int32) (400 : Int32) G) fun v2 G3 =>
  (gr G3 8 0 x0).bind fun a4 =>
  (f_X7_needWord τ n a4 s_long G3).bind fun G6 =>
  (gr G6 8 0 x0).bind fun a7 =>
  gBind2 (f_X7_takeNumber τ n a7 (1 : Int32) (60 : Int32) G6) fun v8 G9 =>
  (gr G9 8 0 x0).bind fun a10 =>
  (f_X7_needWord τ n a10 s_pay G9).bind fun G12 =>
  (gr G12 8 0 x0).bind fun a13 =>
  gBind2 (f_X7_takeNumber τ n a13 (0 : Int32) (99 : Int32) G12) fun v14 G15 =>
  (gr G15 8 0 x0).bind fun a16 =>
  (f_X7_isRight a16 G15).bind fun v17 =>
  if v17 = 0 then (some G15)
  else ((gr G15 8 1 x0).bind fun a18 =>
  (f_X6_addOrder τ a18 v2 v8 v14 G15).bind fun G19 =>
  some G19)
set_option maxHeartbeats 4000000 in
set_option maxRecDepth 100000 in
theorem c_X8_readOrder (l : Launch) (X : gX) (τ : gτ) (n : Nat) (hS : gS0 l X) (x0 : Nat) (G : gG) (h0 : gK τ x0 8) {G' : gG} (h : f_X8_readOrder τ n x0 G = some G') : gM l X τ yX8_readOrder cX8_readOrder 4 none rm_X8_readOrder [.ref x0] G none G' := by
  refine g_body (by decide +kernel) (Nat.le_of_ble_eq_true rfl) ?_
  intro p e s m args below meth c ls fx hr hw hl
  have fx : gFx X p s m args meth c cX8_readOrder 4 RX8 := fx
  have hl : lv_has ls 4 [(0, .ref x0)] := hl
  have hok : gOk (f_X8_readOrder τ n x0 G) (fun q => q = G') := ⟨_, h, rfl⟩
  unfold f_X8_readOrder at hok
  show W p l e rm_X8_readOrder s m args below meth c s.heap [] 0 0 (MQ below (gQ X τ none G') args s 0 0 (gFree X)) _
  refine lv_aload_n fx.1 fx.2.1 dX8_readOrder_0 rfl (lv_at hl 0 rfl) ?_
  refine g_getr fx hw h0 lf_RX8_9 rfl dX8_readOrder_1 hok (fun a1 h_a1 hok => ?_)
  refine lv_iconst (v := 1) fx.1 fx.2.1 dX8_readOrder_4 (by decide) ?_
  refine lv_sipush (v := 400) fx.1 fx.2.1 dX8_readOrder_5 (by decide) ?_
  obtain ⟨v2, G3, hf, hok⟩ := gOk_bind2 hok
  refine g_callV0 (κ := 7) fx hw (c_X7_takeNumber l X τ n a1 (1 : Int32) (400 : Int32) G h_a1 hf) lv_RX8_88 ⟨rfl, rfl⟩ rfl rfl h_a1 rfl hl.1 rfl ⟨Nat.le_of_ble_eq_true rfl, Nat.le_of_ble_eq_true rfl⟩ (Nat.le_of_ble_eq_true rfl) ⟨Nat.le_of_ble_eq_true rfl, Nat.le_of_ble_eq_true rfl⟩ dX8_readOrder_8 (fun H locs hw => ?_)
  refine lv_istore_n (lv' := [(1, .int v2), (0, .ref x0)]) fx.1 fx.2.1 dX8_readOrder_11 rfl hl (by decide) rfl (fun ls hl => ?_)
  refine lv_aload_n fx.1 fx.2.1 dX8_readOrder_12 rfl (lv_at hl 1 rfl) ?_
  refine g_getr fx hw h0 lf_RX8_9 rfl dX8_readOrder_13 hok (fun a4 h_a4 hok => ?_)
  refine g_ldcS fx hS gt_RX8_98 dX8_readOrder_16 (fun w5 h_w5 => ?_)
  obtain ⟨G6, hf, hok⟩ := gOk_bind hok
  refine g_callV0 (κ := 7) fx hw (c_X7_needWord l X τ n hS a4 s_long G3 h_a4 h_w5 hf) lv_RX8_100 ⟨rfl, rfl⟩ rfl rfl h_a4 rfl hl.1 rfl ⟨Nat.le_of_ble_eq_true rfl, Nat.le_of_ble_eq_true rfl⟩ (Nat.le_of_ble_eq_true rfl) ⟨Nat.le_of_ble_eq_true rfl, Nat.le_of_ble_eq_true rfl⟩ dX8_readOrder_18 (fun H locs hw => ?_)
  refine lv_aload_n fx.1 fx.2.1 dX8_readOrder_21 rfl (lv_at hl 1 rfl) ?_
  refine g_getr fx hw h0 lf_RX8_9 rfl dX8_readOrder_22 hok (fun a7 h_a7 hok => ?_)
  refine lv_iconst (v := 1) fx.1 fx.2.1 dX8_readOrder_25 (by decide) ?_
  refine lv_bipush (v := 60) fx.1 fx.2.1 dX8_readOrder_26 (by decide) ?_
  obtain ⟨v8, G9, hf, hok⟩ := gOk_bind2 hok
  refine g_callV0 (κ := 7) fx hw (c_X7_takeNumber l X τ n a7 (1 : Int32) (60 : Int32) G6 h_a7 hf) lv_RX8_88 ⟨rfl, rfl⟩ rfl rfl h_a7 rfl hl.1 rfl ⟨Nat.le_of_ble_eq_true rfl, Nat.le_of_ble_eq_true rfl⟩ (Nat.le_of_ble_eq_true rfl) ⟨Nat.le_of_ble_eq_true rfl, Nat.le_of_ble_eq_true rfl⟩ dX8_readOrder_28 (fun H locs hw => ?_)
  refine lv_istore_n (lv' := [(2, .int v8), (1, .int v2), (0, .ref x0)]) fx.1 fx.2.1 dX8_readOrder_31 rfl hl (by decide) rfl (fun ls hl => ?_)
  refine lv_aload_n fx.1 fx.2.1 dX8_readOrder_32 rfl (lv_at hl 2 rfl) ?_
  refine g_getr fx hw h0 lf_RX8_9 rfl dX8_readOrder_33 hok (fun a10 h_a10 hok => ?_)
  refine g_ldcS fx hS gt_RX8_126 dX8_readOrder_36 (fun w11 h_w11 => ?_)
  obtain ⟨G12, hf, hok⟩ := gOk_bind hok
  refine g_callV0 (κ := 7) fx hw (c_X7_needWord l X τ n hS a10 s_pay G9 h_a10 h_w11 hf) lv_RX8_100 ⟨rfl, rfl⟩ rfl rfl h_a10 rfl hl.1 rfl ⟨Nat.le_of_ble_eq_true rfl, Nat.le_of_ble_eq_true rfl⟩ (Nat.le_of_ble_eq_true rfl) ⟨Nat.le_of_ble_eq_true rfl, Nat.le_of_ble_eq_true rfl⟩ dX8_readOrder_38 (fun H locs hw => ?_)
  refine lv_aload_n fx.1 fx.2.1 dX8_readOrder_41 rfl (lv_at hl 2 rfl) ?_
  refine g_getr fx hw h0 lf_RX8_9 rfl dX8_readOrder_42 hok (fun a13 h_a13 hok => ?_)
  refine lv_iconst (v := 0) fx.1 fx.2.1 dX8_readOrder_45 (by decide) ?_
  refine lv_bipush (v := 99) fx.1 fx.2.1 dX8_readOrder_46 (by decide) ?_
  obtain ⟨v14, G15, hf, hok⟩ := gOk_bind2 hok
  refine g_callV0 (κ := 7) fx hw (c_X7_takeNumber l X τ n a13 (0 : Int32) (99 : Int32) G12 h_a13 hf) lv_RX8_88 ⟨rfl, rfl⟩ rfl rfl h_a13 rfl hl.1 rfl ⟨Nat.le_of_ble_eq_true rfl, Nat.le_of_ble_eq_true rfl⟩ (Nat.le_of_ble_eq_true rfl) ⟨Nat.le_of_ble_eq_true rfl, Nat.le_of_ble_eq_true rfl⟩ dX8_readOrder_48 (fun H locs hw => ?_)
  refine lv_istore_n (lv' := [(3, .int v14), (2, .int v8), (1, .int v2), (0, .ref x0)]) fx.1 fx.2.1 dX8_readOrder_51 rfl hl (by decide) rfl (fun ls hl => ?_)
  refine lv_aload_n fx.1 fx.2.1 dX8_readOrder_52 rfl (lv_at hl 3 rfl) ?_
  refine g_getr fx hw h0 lf_RX8_9 rfl dX8_readOrder_53 hok (fun a16 h_a16 hok => ?_)
  obtain ⟨v17, hf, hok⟩ := gOk_bind hok
  refine g_callV0 (κ := 7) fx hw (c_X7_isRight l X τ a16 G15 h_a16 hf) lv_RX8_37 ⟨rfl, rfl⟩ rfl rfl h_a16 rfl hl.1 rfl ⟨Nat.le_of_ble_eq_true rfl, Nat.le_of_ble_eq_true rfl⟩ (Nat.le_of_ble_eq_true rfl) ⟨Nat.le_of_ble_eq_true rfl, Nat.le_of_ble_eq_true rfl⟩ dX8_readOrder_56 (fun H locs hw => ?_)
  refine g_if_eq (tgt := 72) fx dX8_readOrder_59 (by decide) hok (fun hok => ?_) (fun hok => ?_)
  · cases gOk_some hok
    exact g_vret fx hw hr dX8_readOrder_72
  · refine lv_aload_n fx.1 fx.2.1 dX8_readOrder_62 rfl (lv_at hl 3 rfl) ?_
    refine g_getr fx hw h0 lf_RX8_15 rfl dX8_readOrder_63 hok (fun a18 h_a18 hok => ?_)
    refine lv_iload_n fx.1 fx.2.1 dX8_readOrder_66 rfl (lv_at hl 2 rfl) ?_
    refine lv_iload_n fx.1 fx.2.1 dX8_readOrder_67 rfl (lv_at hl 1 rfl) ?_
    refine lv_iload_n fx.1 fx.2.1 dX8_readOrder_68 rfl (lv_at hl 0 rfl) ?_
    obtain ⟨G19, hf, hok⟩ := gOk_bind hok
    refine g_callV0 (κ := 6) fx hw (c_X6_addOrder l X τ a18 v2 v8 v14 G15 h_a18 hf) lv_RX8_128 ⟨rfl, rfl⟩ rfl rfl h_a18 rfl hl.1 rfl ⟨Nat.le_of_ble_eq_true rfl, Nat.le_of_ble_eq_true rfl⟩ (Nat.le_of_ble_eq_true rfl) ⟨Nat.le_of_ble_eq_true rfl, Nat.le_of_ble_eq_true rfl⟩ dX8_readOrder_69 (fun H locs hw => ?_)
    cases gOk_some hok
    exact g_vret fx hw hr dX8_readOrder_72
theorem dX8_takeRope_0 : decode cX8_takeRope 0 = .ok (.aload_n 0, 1) := by decide +kernel
theorem dX8_takeRope_1 : decode cX8_takeRope 1 = .ok (.getfield 9, 3) := by decide +kernel
theorem dX8_takeRope_4 : decode cX8_takeRope 4 = .ok (.getfield 123, 3) := by decide +kernel
theorem dX8_takeRope_7 : decode cX8_takeRope 7 = .ok (.istore_n 1, 1) := by decide +kernel
theorem dX8_takeRope_8 : decode cX8_takeRope 8 = .ok (.iload_n 1, 1) := by decide +kernel
theorem dX8_takeRope_9 : decode cX8_takeRope 9 = .ok (.ifCond .lt 36, 3) := by decide +kernel
theorem dX8_takeRope_12 : decode cX8_takeRope 12 = .ok (.iload_n 1, 1) := by decide +kernel
theorem dX8_takeRope_13 : decode cX8_takeRope 13 = .ok (.aload_n 0, 1) := by decide +kernel
theorem dX8_takeRope_14 : decode cX8_takeRope 14 = .ok (.getfield 15, 3) := by decide +kernel
theorem dX8_takeRope_17 : decode cX8_takeRope 17 = .ok (.getfield 55, 3) := by decide +kernel
theorem dX8_takeRope_20 : decode cX8_takeRope 20 = .ok (.if_icmp .ge 25, 3) := by decide +kernel
theorem dX8_takeRope_23 : decode cX8_takeRope 23 = .ok (.aload_n 0, 1) := by decide +kernel
theorem dX8_takeRope_24 : decode cX8_takeRope 24 = .ok (.getfield 15, 3) := by decide +kernel
theorem dX8_takeRope_27 : decode cX8_takeRope 27 = .ok (.getfield 136, 3) := by decide +kernel
theorem dX8_takeRope_30 : decode cX8_takeRope 30 = .ok (.iload_n 1, 1) := by decide +kernel
theorem dX8_takeRope_31 : decode cX8_takeRope 31 = .ok (.aaload, 1) := by decide +kernel
theorem dX8_takeRope_32 : decode cX8_takeRope 32 = .ok (.getfield 151, 3) := by decide +kernel
theorem dX8_takeRope_35 : decode cX8_takeRope 35 = .ok (.ifCond .eq 10, 3) := by decide +kernel
theorem dX8_takeRope_38 : decode cX8_takeRope 38 = .ok (.aload_n 0, 1) := by decide +kernel
theorem dX8_takeRope_39 : decode cX8_takeRope 39 = .ok (.getfield 9, 3) := by decide +kernel
theorem dX8_takeRope_42 : decode cX8_takeRope 42 = .ok (.invokevirtual 34, 3) := by decide +kernel
theorem dX8_takeRope_45 : decode cX8_takeRope 45 = .ok (.aload_n 0, 1) := by decide +kernel
theorem dX8_takeRope_46 : decode cX8_takeRope 46 = .ok (.getfield 9, 3) := by decide +kernel
theorem dX8_takeRope_49 : decode cX8_takeRope 49 = .ok (.iconst 0, 1) := by decide +kernel
theorem dX8_takeRope_50 : decode cX8_takeRope 50 = .ok (.aload_n 0, 1) := by decide +kernel
theorem dX8_takeRope_51 : decode cX8_takeRope 51 = .ok (.getfield 15, 3) := by decide +kernel
theorem dX8_takeRope_54 : decode cX8_takeRope 54 = .ok (.getfield 55, 3) := by decide +kernel
theorem dX8_takeRope_57 : decode cX8_takeRope 57 = .ok (.iconst 1, 1) := by decide +kernel
theorem dX8_takeRope_58 : decode cX8_takeRope 58 = .ok (.isub, 1) := by decide +kernel
theorem dX8_takeRope_59 : decode cX8_takeRope 59 = .ok (.invokevirtual 88, 3) := by decide +kernel
theorem dX8_takeRope_62 : decode cX8_takeRope 62 = .ok (.ireturn, 1) := by decide +kernel
theorem lf_RX8_55 : gLf RX8 55 6 5 := ⟨(RX6, TX6, 15), rfl, by decide, wA_t (wt2 (List.mem_of_getElem? (i := 20) (by decide +kernel))) (by decide +kernel), rfl⟩
theorem lf_RX8_136 : gLf RX8 136 6 1 := ⟨(RX6, TX6, 15), rfl, by decide, wA_t (wt2 (List.mem_of_getElem? (i := 10) (by decide +kernel))) (by decide +kernel), rfl⟩
theorem lf_RX8_151 : gLf RX8 151 5 9 := ⟨(RX5, TX5, 10), rfl, by decide, wA_t (wt1 (List.mem_of_getElem? (i := 203) (by decide +kernel))) (by decide +kernel), rfl⟩
def rm_X8_takeRope : Room := { frames := 2, cells := 0, slots := 0, locals := 44 }
def k_X8_takeRope_45 (τ : gτ) (n : Nat) (x0 : Nat)  (G : gG) : Option (Int32 × gG) :=
  (gr G 8 0 x0).bind fun a3 =>
  (gr G 8 1 x0).bind fun a4 =>
  gBind2 (f_X7_takeNumber τ n a3 (0 : Int32) ((gi G 6 5 a4) - (1 : Int32)) G) fun v5 G6 =>
  some (v5, G6)
def f_X8_takeRope (τ : gτ) (n : Nat) (x0 : Nat) (G : gG) : Option (Int32 × gG) :=
  (gr G 8 0 x0).bind fun a1 =>
  gLet (gi G 7 5 a1) fun v2 =>
  if v2 < 0 then (k_X8_takeRope_45 τ n x0  G)
  else ((gr G 8 1 x0).bind fun a7 =>
  if (gi G 6 5 a7) ≤ v2 then (k_X8_takeRope_45 τ n x0  G)
  else ((gr G 8 1 x0).bind fun a8 =>
  (gr G 6 1 a8).bind fun a9 =>
  gchk (gIn v2 (gn τ a9)) <| (gq G a9 (Int32.toNatClampNeg v2)).bind fun a10 =>
  if (gi G 5 9 a10) = 0 then (k_X8_takeRope_45 τ n x0  G)
  else ((gr G 8 0 x0).bind fun a11 =>
  (f_X7_refuse a11 G).bind fun G12 =>
  k_X8_takeRope_45 τ n x0  G12)))
set_option maxHeartbeats 4000000 in
set_option maxRecDepth 100000 in
theorem w_X8_takeRope_45 {X : gX} {τ : gτ} {p : Program} {l : Launch} {e : Env} {s : State} {m : MethodId} {args : Array Value} {below : List Frame} {meth : Method} {c : Code} (fx : gFx X p s m args meth c cX8_takeRope 2 RX8) (n : Nat) (x0 : Nat)  (h0 : gK τ x0 8)  (hr : meth.sig.returnType = (some .int)) {r : Int32} {G' : gG} {G : gG} {H : Heap} {locs : List Loc} {ls : Array Slot} (hw : gHw X τ G H locs) (hl : lv_has ls 2 [(0, .ref x0)]) (hok : gOk (k_X8_takeRope_45 τ n x0  G) (fun q => q = (r, G')))  : W p l e rm_X8_takeRope s m args below meth c H locs 0 0 (MQ below (gQ X τ (some (.int r)) G') args s 0 0 (gFree X)) (F0 m 45 ls []) := by
  unfold k_X8_takeRope_45 at hok
  refine lv_aload_n fx.1 fx.2.1 dX8_takeRope_45 rfl (lv_at hl 0 rfl) ?_
  refine g_getr fx hw h0 lf_RX8_9 rfl dX8_takeRope_46 hok (fun a3 h_a3 hok => ?_)
  refine lv_iconst (v := 0) fx.1 fx.2.1 dX8_takeRope_49 (by decide) ?_
  refine lv_aload_n fx.1 fx.2.1 dX8_takeRope_50 rfl (lv_at hl 0 rfl) ?_
  refine g_getr fx hw h0 lf_RX8_15 rfl dX8_takeRope_51 hok (fun a4 h_a4 hok => ?_)
  refine g_geti fx hw h_a4 lf_RX8_55 rfl dX8_takeRope_54 ?_
  refine lv_iconst (v := 1) fx.1 fx.2.1 dX8_takeRope_57 (by decide) ?_
  refine lv_isub fx.1 fx.2.1 dX8_takeRope_58 ?_
  obtain ⟨v5, G6, hf, hok⟩ := gOk_bind2 hok
  refine g_callV0 (κ := 7) fx hw (c_X7_takeNumber l X τ n a3 (0 : Int32) ((gi G 6 5 a4) - (1 : Int32)) G h_a3 hf) lv_RX8_88 ⟨rfl, rfl⟩ rfl rfl h_a3 rfl hl.1 rfl ⟨Nat.le_of_ble_eq_true rfl, Nat.le_of_ble_eq_true rfl⟩ (Nat.le_of_ble_eq_true rfl) ⟨Nat.le_of_ble_eq_true rfl, Nat.le_of_ble_eq_true rfl⟩ dX8_takeRope_59 (fun H locs hw => ?_)
  cases gOk_some hok
  exact g_iret fx hw hr dX8_takeRope_62
set_option maxHeartbeats 4000000 in
set_option maxRecDepth 100000 in
theorem c_X8_takeRope (l : Launch) (X : gX) (τ : gτ) (n : Nat) (x0 : Nat) (G : gG) (h0 : gK τ x0 8) {r : Int32} {G' : gG} (h : f_X8_takeRope τ n x0 G = some (r, G')) : gM l X τ yX8_takeRope cX8_takeRope 2 (some .int) rm_X8_takeRope [.ref x0] G (some (.int r)) G' := by
  refine g_body (by decide +kernel) (Nat.le_of_ble_eq_true rfl) ?_
  intro p e s m args below meth c ls fx hr hw hl
  have fx : gFx X p s m args meth c cX8_takeRope 2 RX8 := fx
  have hl : lv_has ls 2 [(0, .ref x0)] := hl
  have hok : gOk (f_X8_takeRope τ n x0 G) (fun q => q = (r, G')) := ⟨_, h, rfl⟩
  unfold f_X8_takeRope at hok
  show W p l e rm_X8_takeRope s m args below meth c s.heap [] 0 0 (MQ below (gQ X τ (some (.int r)) G') args s 0 0 (gFree X)) _
  refine lv_aload_n fx.1 fx.2.1 dX8_takeRope_0 rfl (lv_at hl 0 rfl) ?_
  refine g_getr fx hw h0 lf_RX8_9 rfl dX8_takeRope_1 hok (fun a1 h_a1 hok => ?_)
  refine g_geti fx hw h_a1 lf_RX8_123 rfl dX8_takeRope_4 ?_
  refine g_leti hok (fun v2 hok => ?_)
  refine lv_istore_n (lv' := [(1, .int v2), (0, .ref x0)]) fx.1 fx.2.1 dX8_takeRope_7 rfl hl (by decide) rfl (fun ls hl => ?_)
  refine lv_iload_n fx.1 fx.2.1 dX8_takeRope_8 rfl (lv_at hl 0 rfl) ?_
  refine g_if_lt (tgt := 45) fx dX8_takeRope_9 (by decide) hok (fun hok => ?_) (fun hok => ?_)
  · exact w_X8_takeRope_45 fx n x0  h0  hr hw (lv_sub hl [1] rfl) hok
  · refine lv_iload_n fx.1 fx.2.1 dX8_takeRope_12 rfl (lv_at hl 0 rfl) ?_
    refine lv_aload_n fx.1 fx.2.1 dX8_takeRope_13 rfl (lv_at hl 1 rfl) ?_
    refine g_getr fx hw h0 lf_RX8_15 rfl dX8_takeRope_14 hok (fun a7 h_a7 hok => ?_)
    refine g_geti fx hw h_a7 lf_RX8_55 rfl dX8_takeRope_17 ?_
    refine g_icmp_ge (tgt := 45) fx dX8_takeRope_20 (by decide) hok (fun hok => ?_) (fun hok => ?_)
    · exact w_X8_takeRope_45 fx n x0  h0  hr hw (lv_sub hl [1] rfl) hok
    · refine lv_aload_n fx.1 fx.2.1 dX8_takeRope_23 rfl (lv_at hl 1 rfl) ?_
      refine g_getr fx hw h0 lf_RX8_15 rfl dX8_takeRope_24 hok (fun a8 h_a8 hok => ?_)
      refine g_getr fx hw h_a8 lf_RX8_136 rfl dX8_takeRope_27 hok (fun a9 h_a9 hok => ?_)
      refine lv_iload_n fx.1 fx.2.1 dX8_takeRope_30 rfl (lv_at hl 0 rfl) ?_
      refine g_aald fx hw 15 3 h_a9 (by decide) (by decide) rfl (κ' := 5) rfl dX8_takeRope_31 hok (fun a10 h_a10 hok => ?_)
      refine g_geti fx hw h_a10 lf_RX8_151 rfl dX8_takeRope_32 ?_
      refine g_if_eq (tgt := 45) fx dX8_takeRope_35 (by decide) hok (fun hok => ?_) (fun hok => ?_)
      · exact w_X8_takeRope_45 fx n x0  h0  hr hw (lv_sub hl [1] rfl) hok
      · refine lv_aload_n fx.1 fx.2.1 dX8_takeRope_38 rfl (lv_at hl 1 rfl) ?_
        refine g_getr fx hw h0 lf_RX8_9 rfl dX8_takeRope_39 hok (fun a11 h_a11 hok => ?_)
        obtain ⟨G12, hf, hok⟩ := gOk_bind hok
        refine g_callV0 (κ := 7) fx hw (c_X7_refuse l X τ a11 G h_a11 hf) lv_RX8_34 ⟨rfl, rfl⟩ rfl rfl h_a11 rfl hl.1 rfl ⟨Nat.le_of_ble_eq_true rfl, Nat.le_of_ble_eq_true rfl⟩ (Nat.le_of_ble_eq_true rfl) ⟨Nat.le_of_ble_eq_true rfl, Nat.le_of_ble_eq_true rfl⟩ dX8_takeRope_42 (fun H locs hw => ?_)
        exact w_X8_takeRope_45 fx n x0  h0  hr hw (lv_sub hl [1] rfl) hok
theorem dX8_readHang_0 : decode cX8_readHang 0 = .ok (.aload_n 0, 1) := by decide +kernel
theorem dX8_readHang_1 : decode cX8_readHang 1 = .ok (.invokevirtual 132, 3) := by decide +kernel
theorem dX8_readHang_4 : decode cX8_readHang 4 = .ok (.istore_n 1, 1) := by decide +kernel
theorem dX8_readHang_5 : decode cX8_readHang 5 = .ok (.aload_n 0, 1) := by decide +kernel
theorem dX8_readHang_6 : decode cX8_readHang 6 = .ok (.getfield 9, 3) := by decide +kernel
theorem dX8_readHang_9 : decode cX8_readHang 9 = .ok (.iconst 0, 1) := by decide +kernel
theorem dX8_readHang_10 : decode cX8_readHang 10 = .ok (.sipush 999, 3) := by decide +kernel
theorem dX8_readHang_13 : decode cX8_readHang 13 = .ok (.invokevirtual 88, 3) := by decide +kernel
theorem dX8_readHang_16 : decode cX8_readHang 16 = .ok (.istore_n 2, 1) := by decide +kernel
theorem dX8_readHang_17 : decode cX8_readHang 17 = .ok (.aload_n 0, 1) := by decide +kernel
theorem dX8_readHang_18 : decode cX8_readHang 18 = .ok (.getfield 9, 3) := by decide +kernel
theorem dX8_readHang_21 : decode cX8_readHang 21 = .ok (.invokevirtual 37, 3) := by decide +kernel
theorem dX8_readHang_24 : decode cX8_readHang 24 = .ok (.ifCond .eq 16, 3) := by decide +kernel
theorem dX8_readHang_27 : decode cX8_readHang 27 = .ok (.aload_n 0, 1) := by decide +kernel
theorem dX8_readHang_28 : decode cX8_readHang 28 = .ok (.getfield 15, 3) := by decide +kernel
theorem dX8_readHang_31 : decode cX8_readHang 31 = .ok (.getfield 136, 3) := by decide +kernel
theorem dX8_readHang_34 : decode cX8_readHang 34 = .ok (.iload_n 1, 1) := by decide +kernel
theorem dX8_readHang_35 : decode cX8_readHang 35 = .ok (.aaload, 1) := by decide +kernel
theorem dX8_readHang_36 : decode cX8_readHang 36 = .ok (.iload_n 2, 1) := by decide +kernel
theorem dX8_readHang_37 : decode cX8_readHang 37 = .ok (.putfield 140, 3) := by decide +kernel
theorem dX8_readHang_40 : decode cX8_readHang 40 = .ok (.return_, 1) := by decide +kernel
theorem lv_RX8_132 : gLv RX8 132 RX8 yX8_takeRope cX8_takeRope 2 (some .int) 0 := gLv_of (wA_t (wt4 (List.mem_of_getElem? (i := 41) (by decide +kernel))) (by decide +kernel)) (wA_t (wt4 (List.mem_of_getElem? (i := 43) (by decide +kernel))) (by decide +kernel)) (wA_of (List.mem_append_left _ (List.mem_map.mpr ⟨(⟨"YearRope$WalkReader", "takeRope", "()I"⟩, 2), wp1 (List.mem_of_getElem? (i := 15) (by decide +kernel)), rfl⟩)) (by decide +kernel)) (wA_t (wt1 (List.mem_of_getElem? (i := 3) (by decide +kernel))) (by decide +kernel)) (wA_t (wt4 (List.mem_of_getElem? (i := 44) (by decide +kernel))) (by decide +kernel)) ⟨rfl, by decide +kernel, by decide +kernel, by decide +kernel⟩
theorem lp_RX8_140 : gLp RX8 140 5 7 := ⟨(RX5, TX5, 10), rfl, by decide, wA_t (wt1 (List.mem_of_getElem? (i := 193) (by decide +kernel))) (by decide +kernel), rfl, rfl⟩
def rm_X8_readHang : Room := { frames := 3, cells := 0, slots := 0, locals := 65 }
def f_X8_readHang (τ : gτ) (n : Nat) (x0 : Nat) (G : gG) : Option (gG) :=
  gBind2 (f_X8_takeRope τ n x0 G) fun v1 G2 =>
  (gr G2 8 0 x0).bind fun a3 =>
  gBind2 (f_X7_takeNumber τ n a3 (0 : Int32) (999 : Int32) G2) fun v4 G5 =>
  (gr G5 8 0 x0).bind fun a6 =>
  (f_X7_isRight a6 G5).bind fun v7 =>
  if v7 = 0 then (some G5)
  else ((gr G5 8 1 x0).bind fun a8 =>
  (gr G5 6 1 a8).bind fun a9 =>
  gchk (gIn v1 (gn τ a9)) <| (gq G5 a9 (Int32.toNatClampNeg v1)).bind fun a10 =>
  gLet (gsi G5 5 7 a10 v4) fun G11 =>
  some G11)
set_option maxHeartbeats 4000000 in
set_option maxRecDepth 100000 in
theorem c_X8_readHang (l : Launch) (X : gX) (τ : gτ) (n : Nat) (x0 : Nat) (G : gG) (h0 : gK τ x0 8) {G' : gG} (h : f_X8_readHang τ n x0 G = some G') : gM l X τ yX8_readHang cX8_readHang 3 none rm_X8_readHang [.ref x0] G none G' := by
  refine g_body (by decide +kernel) (Nat.le_of_ble_eq_true rfl) ?_
  intro p e s m args below meth c ls fx hr hw hl
  have fx : gFx X p s m args meth c cX8_readHang 3 RX8 := fx
  have hl : lv_has ls 3 [(0, .ref x0)] := hl
  have hok : gOk (f_X8_readHang τ n x0 G) (fun q => q = G') := ⟨_, h, rfl⟩
  unfold f_X8_readHang at hok
  show W p l e rm_X8_readHang s m args below meth c s.heap [] 0 0 (MQ below (gQ X τ none G') args s 0 0 (gFree X)) _
  refine lv_aload_n fx.1 fx.2.1 dX8_readHang_0 rfl (lv_at hl 0 rfl) ?_
  obtain ⟨v1, G2, hf, hok⟩ := gOk_bind2 hok
  refine g_callV0 (κ := 8) fx hw (c_X8_takeRope l X τ n x0 G h0 hf) lv_RX8_132 ⟨rfl, rfl⟩ rfl rfl h0 rfl hl.1 rfl ⟨Nat.le_of_ble_eq_true rfl, Nat.le_of_ble_eq_true rfl⟩ (Nat.le_of_ble_eq_true rfl) ⟨Nat.le_of_ble_eq_true rfl, Nat.le_of_ble_eq_true rfl⟩ dX8_readHang_1 (fun H locs hw => ?_)
  refine lv_istore_n (lv' := [(1, .int v1), (0, .ref x0)]) fx.1 fx.2.1 dX8_readHang_4 rfl hl (by decide) rfl (fun ls hl => ?_)
  refine lv_aload_n fx.1 fx.2.1 dX8_readHang_5 rfl (lv_at hl 1 rfl) ?_
  refine g_getr fx hw h0 lf_RX8_9 rfl dX8_readHang_6 hok (fun a3 h_a3 hok => ?_)
  refine lv_iconst (v := 0) fx.1 fx.2.1 dX8_readHang_9 (by decide) ?_
  refine lv_sipush (v := 999) fx.1 fx.2.1 dX8_readHang_10 (by decide) ?_
  obtain ⟨v4, G5, hf, hok⟩ := gOk_bind2 hok
  refine g_callV0 (κ := 7) fx hw (c_X7_takeNumber l X τ n a3 (0 : Int32) (999 : Int32) G2 h_a3 hf) lv_RX8_88 ⟨rfl, rfl⟩ rfl rfl h_a3 rfl hl.1 rfl ⟨Nat.le_of_ble_eq_true rfl, Nat.le_of_ble_eq_true rfl⟩ (Nat.le_of_ble_eq_true rfl) ⟨Nat.le_of_ble_eq_true rfl, Nat.le_of_ble_eq_true rfl⟩ dX8_readHang_13 (fun H locs hw => ?_)
  refine lv_istore_n (lv' := [(2, .int v4), (1, .int v1), (0, .ref x0)]) fx.1 fx.2.1 dX8_readHang_16 rfl hl (by decide) rfl (fun ls hl => ?_)
  refine lv_aload_n fx.1 fx.2.1 dX8_readHang_17 rfl (lv_at hl 2 rfl) ?_
  refine g_getr fx hw h0 lf_RX8_9 rfl dX8_readHang_18 hok (fun a6 h_a6 hok => ?_)
  obtain ⟨v7, hf, hok⟩ := gOk_bind hok
  refine g_callV0 (κ := 7) fx hw (c_X7_isRight l X τ a6 G5 h_a6 hf) lv_RX8_37 ⟨rfl, rfl⟩ rfl rfl h_a6 rfl hl.1 rfl ⟨Nat.le_of_ble_eq_true rfl, Nat.le_of_ble_eq_true rfl⟩ (Nat.le_of_ble_eq_true rfl) ⟨Nat.le_of_ble_eq_true rfl, Nat.le_of_ble_eq_true rfl⟩ dX8_readHang_21 (fun H locs hw => ?_)
  refine g_if_eq (tgt := 40) fx dX8_readHang_24 (by decide) hok (fun hok => ?_) (fun hok => ?_)
  · cases gOk_some hok
    exact g_vret fx hw hr dX8_readHang_40
  · refine lv_aload_n fx.1 fx.2.1 dX8_readHang_27 rfl (lv_at hl 2 rfl) ?_
    refine g_getr fx hw h0 lf_RX8_15 rfl dX8_readHang_28 hok (fun a8 h_a8 hok => ?_)
    refine g_getr fx hw h_a8 lf_RX8_136 rfl dX8_readHang_31 hok (fun a9 h_a9 hok => ?_)
    refine lv_iload_n fx.1 fx.2.1 dX8_readHang_34 rfl (lv_at hl 1 rfl) ?_
    refine g_aald fx hw 15 3 h_a9 (by decide) (by decide) rfl (κ' := 5) rfl dX8_readHang_35 hok (fun a10 h_a10 hok => ?_)
    refine lv_iload_n fx.1 fx.2.1 dX8_readHang_36 rfl (lv_at hl 0 rfl) ?_
    refine g_puti fx hw h_a10 lp_RX8_140 rfl rfl dX8_readHang_37 hok (fun G11 H locs hw hok => ?_)
    cases gOk_some hok
    exact g_vret fx hw hr dX8_readHang_40
theorem dX8_readTar_0 : decode cX8_readTar 0 = .ok (.aload_n 0, 1) := by decide +kernel
theorem dX8_readTar_1 : decode cX8_readTar 1 = .ok (.invokevirtual 132, 3) := by decide +kernel
theorem dX8_readTar_4 : decode cX8_readTar 4 = .ok (.istore_n 1, 1) := by decide +kernel
theorem dX8_readTar_5 : decode cX8_readTar 5 = .ok (.aload_n 0, 1) := by decide +kernel
theorem dX8_readTar_6 : decode cX8_readTar 6 = .ok (.getfield 9, 3) := by decide +kernel
theorem dX8_readTar_9 : decode cX8_readTar 9 = .ok (.iconst 0, 1) := by decide +kernel
theorem dX8_readTar_10 : decode cX8_readTar 10 = .ok (.bipush 9, 2) := by decide +kernel
theorem dX8_readTar_12 : decode cX8_readTar 12 = .ok (.invokevirtual 88, 3) := by decide +kernel
theorem dX8_readTar_15 : decode cX8_readTar 15 = .ok (.istore_n 2, 1) := by decide +kernel
theorem dX8_readTar_16 : decode cX8_readTar 16 = .ok (.aload_n 0, 1) := by decide +kernel
theorem dX8_readTar_17 : decode cX8_readTar 17 = .ok (.getfield 9, 3) := by decide +kernel
theorem dX8_readTar_20 : decode cX8_readTar 20 = .ok (.invokevirtual 37, 3) := by decide +kernel
theorem dX8_readTar_23 : decode cX8_readTar 23 = .ok (.ifCond .eq 16, 3) := by decide +kernel
theorem dX8_readTar_26 : decode cX8_readTar 26 = .ok (.aload_n 0, 1) := by decide +kernel
theorem dX8_readTar_27 : decode cX8_readTar 27 = .ok (.getfield 15, 3) := by decide +kernel
theorem dX8_readTar_30 : decode cX8_readTar 30 = .ok (.getfield 136, 3) := by decide +kernel
theorem dX8_readTar_33 : decode cX8_readTar 33 = .ok (.iload_n 1, 1) := by decide +kernel
theorem dX8_readTar_34 : decode cX8_readTar 34 = .ok (.aaload, 1) := by decide +kernel
theorem dX8_readTar_35 : decode cX8_readTar 35 = .ok (.iload_n 2, 1) := by decide +kernel
theorem dX8_readTar_36 : decode cX8_readTar 36 = .ok (.putfield 145, 3) := by decide +kernel
theorem dX8_readTar_39 : decode cX8_readTar 39 = .ok (.return_, 1) := by decide +kernel
theorem lp_RX8_145 : gLp RX8 145 5 4 := ⟨(RX5, TX5, 10), rfl, by decide, wA_t (wt1 (List.mem_of_getElem? (i := 181) (by decide +kernel))) (by decide +kernel), rfl, rfl⟩
def rm_X8_readTar : Room := { frames := 3, cells := 0, slots := 0, locals := 65 }
def f_X8_readTar (τ : gτ) (n : Nat) (x0 : Nat) (G : gG) : Option (gG) :=
  gBind2 (f_X8_takeRope τ n x0 G) fun v1 G2 =>
  (gr G2 8 0 x0).bind fun a3 =>
  gBind2 (f_X7_takeNumber τ n a3 (0 : Int32) (9 : Int32) G2) fun v4 G5 =>
  (gr G5 8 0 x0).bind fun a6 =>
  (f_X7_isRight a6 G5).bind fun v7 =>
  if v7 = 0 then (some G5)
  else ((gr G5 8 1 x0).bind fun a8 =>
  (gr G5 6 1 a8).bind fun a9 =>
  gchk (gIn v1 (gn τ a9)) <| (gq G5 a9 (Int32.toNatClampNeg v1)).bind fun a10 =>
  gLet (gsi G5 5 4 a10 v4) fun G11 =>
  some G11)
set_option maxHeartbeats 4000000 in
set_option maxRecDepth 100000 in
theorem c_X8_readTar (l : Launch) (X : gX) (τ : gτ) (n : Nat) (x0 : Nat) (G : gG) (h0 : gK τ x0 8) {G' : gG} (h : f_X8_readTar τ n x0 G = some G') : gM l X τ yX8_readTar cX8_readTar 3 none rm_X8_readTar [.ref x0] G none G' := by
  refine g_body (by decide +kernel) (Nat.le_of_ble_eq_true rfl) ?_
  intro p e s m args below meth c ls fx hr hw hl
  have fx : gFx X p s m args meth c cX8_readTar 3 RX8 := fx
  have hl : lv_has ls 3 [(0, .ref x0)] := hl
  have hok : gOk (f_X8_readTar τ n x0 G) (fun q => q = G') := ⟨_, h, rfl⟩
  unfold f_X8_readTar at hok
  show W p l e rm_X8_readTar s m args below meth c s.heap [] 0 0 (MQ below (gQ X τ none G') args s 0 0 (gFree X)) _
  refine lv_aload_n fx.1 fx.2.1 dX8_readTar_0 rfl (lv_at hl 0 rfl) ?_
  obtain ⟨v1, G2, hf, hok⟩ := gOk_bind2 hok
  refine g_callV0 (κ := 8) fx hw (c_X8_takeRope l X τ n x0 G h0 hf) lv_RX8_132 ⟨rfl, rfl⟩ rfl rfl h0 rfl hl.1 rfl ⟨Nat.le_of_ble_eq_true rfl, Nat.le_of_ble_eq_true rfl⟩ (Nat.le_of_ble_eq_true rfl) ⟨Nat.le_of_ble_eq_true rfl, Nat.le_of_ble_eq_true rfl⟩ dX8_readTar_1 (fun H locs hw => ?_)
  refine lv_istore_n (lv' := [(1, .int v1), (0, .ref x0)]) fx.1 fx.2.1 dX8_readTar_4 rfl hl (by decide) rfl (fun ls hl => ?_)
  refine lv_aload_n fx.1 fx.2.1 dX8_readTar_5 rfl (lv_at hl 1 rfl) ?_
  refine g_getr fx hw h0 lf_RX8_9 rfl dX8_readTar_6 hok (fun a3 h_a3 hok => ?_)
  refine lv_iconst (v := 0) fx.1 fx.2.1 dX8_readTar_9 (by decide) ?_
  refine lv_bipush (v := 9) fx.1 fx.2.1 dX8_readTar_10 (by decide) ?_
  obtain ⟨v4, G5, hf, hok⟩ := gOk_bind2 hok
  refine g_callV0 (κ := 7) fx hw (c_X7_takeNumber l X τ n a3 (0 : Int32) (9 : Int32) G2 h_a3 hf) lv_RX8_88 ⟨rfl, rfl⟩ rfl rfl h_a3 rfl hl.1 rfl ⟨Nat.le_of_ble_eq_true rfl, Nat.le_of_ble_eq_true rfl⟩ (Nat.le_of_ble_eq_true rfl) ⟨Nat.le_of_ble_eq_true rfl, Nat.le_of_ble_eq_true rfl⟩ dX8_readTar_12 (fun H locs hw => ?_)
  refine lv_istore_n (lv' := [(2, .int v4), (1, .int v1), (0, .ref x0)]) fx.1 fx.2.1 dX8_readTar_15 rfl hl (by decide) rfl (fun ls hl => ?_)
  refine lv_aload_n fx.1 fx.2.1 dX8_readTar_16 rfl (lv_at hl 2 rfl) ?_
  refine g_getr fx hw h0 lf_RX8_9 rfl dX8_readTar_17 hok (fun a6 h_a6 hok => ?_)
  obtain ⟨v7, hf, hok⟩ := gOk_bind hok
  refine g_callV0 (κ := 7) fx hw (c_X7_isRight l X τ a6 G5 h_a6 hf) lv_RX8_37 ⟨rfl, rfl⟩ rfl rfl h_a6 rfl hl.1 rfl ⟨Nat.le_of_ble_eq_true rfl, Nat.le_of_ble_eq_true rfl⟩ (Nat.le_of_ble_eq_true rfl) ⟨Nat.le_of_ble_eq_true rfl, Nat.le_of_ble_eq_true rfl⟩ dX8_readTar_20 (fun H locs hw => ?_)
  refine g_if_eq (tgt := 39) fx dX8_readTar_23 (by decide) hok (fun hok => ?_) (fun hok => ?_)
  · cases gOk_some hok
    exact g_vret fx hw hr dX8_readTar_39
  · refine lv_aload_n fx.1 fx.2.1 dX8_readTar_26 rfl (lv_at hl 2 rfl) ?_
    refine g_getr fx hw h0 lf_RX8_15 rfl dX8_readTar_27 hok (fun a8 h_a8 hok => ?_)
    refine g_getr fx hw h_a8 lf_RX8_136 rfl dX8_readTar_30 hok (fun a9 h_a9 hok => ?_)
    refine lv_iload_n fx.1 fx.2.1 dX8_readTar_33 rfl (lv_at hl 1 rfl) ?_
    refine g_aald fx hw 15 3 h_a9 (by decide) (by decide) rfl (κ' := 5) rfl dX8_readTar_34 hok (fun a10 h_a10 hok => ?_)
    refine lv_iload_n fx.1 fx.2.1 dX8_readTar_35 rfl (lv_at hl 0 rfl) ?_
    refine g_puti fx hw h_a10 lp_RX8_145 rfl rfl dX8_readTar_36 hok (fun G11 H locs hw hok => ?_)
    cases gOk_some hok
    exact g_vret fx hw hr dX8_readTar_39
theorem dX8_readWhip_0 : decode cX8_readWhip 0 = .ok (.aload_n 0, 1) := by decide +kernel
theorem dX8_readWhip_1 : decode cX8_readWhip 1 = .ok (.invokevirtual 132, 3) := by decide +kernel
theorem dX8_readWhip_4 : decode cX8_readWhip 4 = .ok (.istore_n 1, 1) := by decide +kernel
theorem dX8_readWhip_5 : decode cX8_readWhip 5 = .ok (.aload_n 0, 1) := by decide +kernel
theorem dX8_readWhip_6 : decode cX8_readWhip 6 = .ok (.getfield 9, 3) := by decide +kernel
theorem dX8_readWhip_9 : decode cX8_readWhip 9 = .ok (.invokevirtual 37, 3) := by decide +kernel
theorem dX8_readWhip_12 : decode cX8_readWhip 12 = .ok (.ifCond .eq 16, 3) := by decide +kernel
theorem dX8_readWhip_15 : decode cX8_readWhip 15 = .ok (.aload_n 0, 1) := by decide +kernel
theorem dX8_readWhip_16 : decode cX8_readWhip 16 = .ok (.getfield 15, 3) := by decide +kernel
theorem dX8_readWhip_19 : decode cX8_readWhip 19 = .ok (.getfield 136, 3) := by decide +kernel
theorem dX8_readWhip_22 : decode cX8_readWhip 22 = .ok (.iload_n 1, 1) := by decide +kernel
theorem dX8_readWhip_23 : decode cX8_readWhip 23 = .ok (.aaload, 1) := by decide +kernel
theorem dX8_readWhip_24 : decode cX8_readWhip 24 = .ok (.iconst 1, 1) := by decide +kernel
theorem dX8_readWhip_25 : decode cX8_readWhip 25 = .ok (.putfield 147, 3) := by decide +kernel
theorem dX8_readWhip_28 : decode cX8_readWhip 28 = .ok (.return_, 1) := by decide +kernel
theorem lp_RX8_147 : gLp RX8 147 5 8 := ⟨(RX5, TX5, 10), rfl, by decide, wA_t (wt1 (List.mem_of_getElem? (i := 199) (by decide +kernel))) (by decide +kernel), rfl, rfl⟩
def rm_X8_readWhip : Room := { frames := 3, cells := 0, slots := 0, locals := 65 }
def f_X8_readWhip (τ : gτ) (n : Nat) (x0 : Nat) (G : gG) : Option (gG) :=
  gBind2 (f_X8_takeRope τ n x0 G) fun v1 G2 =>
  (gr G2 8 0 x0).bind fun a3 =>
  (f_X7_isRight a3 G2).bind fun v4 =>
  if v4 = 0 then (some G2)
  else ((gr G2 8 1 x0).bind fun a5 =>
  (gr G2 6 1 a5).bind fun a6 =>
  gchk (gIn v1 (gn τ a6)) <| (gq G2 a6 (Int32.toNatClampNeg v1)).bind fun a7 =>
  gLet (gsi G2 5 8 a7 (1 : Int32)) fun G8 =>
  some G8)
set_option maxHeartbeats 4000000 in
set_option maxRecDepth 100000 in
theorem c_X8_readWhip (l : Launch) (X : gX) (τ : gτ) (n : Nat) (x0 : Nat) (G : gG) (h0 : gK τ x0 8) {G' : gG} (h : f_X8_readWhip τ n x0 G = some G') : gM l X τ yX8_readWhip cX8_readWhip 2 none rm_X8_readWhip [.ref x0] G none G' := by
  refine g_body (by decide +kernel) (Nat.le_of_ble_eq_true rfl) ?_
  intro p e s m args below meth c ls fx hr hw hl
  have fx : gFx X p s m args meth c cX8_readWhip 2 RX8 := fx
  have hl : lv_has ls 2 [(0, .ref x0)] := hl
  have hok : gOk (f_X8_readWhip τ n x0 G) (fun q => q = G') := ⟨_, h, rfl⟩
  unfold f_X8_readWhip at hok
  show W p l e rm_X8_readWhip s m args below meth c s.heap [] 0 0 (MQ below (gQ X τ none G') args s 0 0 (gFree X)) _
  refine lv_aload_n fx.1 fx.2.1 dX8_readWhip_0 rfl (lv_at hl 0 rfl) ?_
  obtain ⟨v1, G2, hf, hok⟩ := gOk_bind2 hok
  refine g_callV0 (κ := 8) fx hw (c_X8_takeRope l X τ n x0 G h0 hf) lv_RX8_132 ⟨rfl, rfl⟩ rfl rfl h0 rfl hl.1 rfl ⟨Nat.le_of_ble_eq_true rfl, Nat.le_of_ble_eq_true rfl⟩ (Nat.le_of_ble_eq_true rfl) ⟨Nat.le_of_ble_eq_true rfl, Nat.le_of_ble_eq_true rfl⟩ dX8_readWhip_1 (fun H locs hw => ?_)
  refine lv_istore_n (lv' := [(1, .int v1), (0, .ref x0)]) fx.1 fx.2.1 dX8_readWhip_4 rfl hl (by decide) rfl (fun ls hl => ?_)
  refine lv_aload_n fx.1 fx.2.1 dX8_readWhip_5 rfl (lv_at hl 1 rfl) ?_
  refine g_getr fx hw h0 lf_RX8_9 rfl dX8_readWhip_6 hok (fun a3 h_a3 hok => ?_)
  obtain ⟨v4, hf, hok⟩ := gOk_bind hok
  refine g_callV0 (κ := 7) fx hw (c_X7_isRight l X τ a3 G2 h_a3 hf) lv_RX8_37 ⟨rfl, rfl⟩ rfl rfl h_a3 rfl hl.1 rfl ⟨Nat.le_of_ble_eq_true rfl, Nat.le_of_ble_eq_true rfl⟩ (Nat.le_of_ble_eq_true rfl) ⟨Nat.le_of_ble_eq_true rfl, Nat.le_of_ble_eq_true rfl⟩ dX8_readWhip_9 (fun H locs hw => ?_)
  refine g_if_eq (tgt := 28) fx dX8_readWhip_12 (by decide) hok (fun hok => ?_) (fun hok => ?_)
  · cases gOk_some hok
    exact g_vret fx hw hr dX8_readWhip_28
  · refine lv_aload_n fx.1 fx.2.1 dX8_readWhip_15 rfl (lv_at hl 1 rfl) ?_
    refine g_getr fx hw h0 lf_RX8_15 rfl dX8_readWhip_16 hok (fun a5 h_a5 hok => ?_)
    refine g_getr fx hw h_a5 lf_RX8_136 rfl dX8_readWhip_19 hok (fun a6 h_a6 hok => ?_)
    refine lv_iload_n fx.1 fx.2.1 dX8_readWhip_22 rfl (lv_at hl 0 rfl) ?_
    refine g_aald fx hw 15 3 h_a6 (by decide) (by decide) rfl (κ' := 5) rfl dX8_readWhip_23 hok (fun a7 h_a7 hok => ?_)
    refine lv_iconst (v := 1) fx.1 fx.2.1 dX8_readWhip_24 (by decide) ?_
    refine g_putz fx hw h_a7 lp_RX8_147 rfl rfl (by decide) dX8_readWhip_25 hok (fun G8 H locs hw hok => ?_)
    cases gOk_some hok
    exact g_vret fx hw hr dX8_readWhip_28
theorem dX8_readLine_0 : decode cX8_readLine 0 = .ok (.aload_n 0, 1) := by decide +kernel
theorem dX8_readLine_1 : decode cX8_readLine 1 = .ok (.getfield 15, 3) := by decide +kernel
theorem dX8_readLine_4 : decode cX8_readLine 4 = .ok (.getfield 40, 3) := by decide +kernel
theorem dX8_readLine_7 : decode cX8_readLine 7 = .ok (.bipush 10, 2) := by decide +kernel
theorem dX8_readLine_9 : decode cX8_readLine 9 = .ok (.if_icmp .ge 22, 3) := by decide +kernel
theorem dX8_readLine_12 : decode cX8_readLine 12 = .ok (.aload_n 0, 1) := by decide +kernel
theorem dX8_readLine_13 : decode cX8_readLine 13 = .ok (.getfield 9, 3) := by decide +kernel
theorem dX8_readLine_16 : decode cX8_readLine 16 = .ok (.ldc 46, 2) := by decide +kernel
theorem dX8_readLine_18 : decode cX8_readLine 18 = .ok (.invokevirtual 48, 3) := by decide +kernel
theorem dX8_readLine_21 : decode cX8_readLine 21 = .ok (.ifCond .eq 10, 3) := by decide +kernel
theorem dX8_readLine_24 : decode cX8_readLine 24 = .ok (.aload_n 0, 1) := by decide +kernel
theorem dX8_readLine_25 : decode cX8_readLine 25 = .ok (.invokevirtual 52, 3) := by decide +kernel
theorem dX8_readLine_28 : decode cX8_readLine 28 = .ok (.goto 193, 3) := by decide +kernel
theorem dX8_readLine_31 : decode cX8_readLine 31 = .ok (.aload_n 0, 1) := by decide +kernel
theorem dX8_readLine_32 : decode cX8_readLine 32 = .ok (.getfield 15, 3) := by decide +kernel
theorem dX8_readLine_35 : decode cX8_readLine 35 = .ok (.getfield 55, 3) := by decide +kernel
theorem dX8_readLine_38 : decode cX8_readLine 38 = .ok (.bipush 8, 2) := by decide +kernel
theorem dX8_readLine_40 : decode cX8_readLine 40 = .ok (.if_icmp .ge 22, 3) := by decide +kernel
theorem dX8_readLine_43 : decode cX8_readLine 43 = .ok (.aload_n 0, 1) := by decide +kernel
theorem dX8_readLine_44 : decode cX8_readLine 44 = .ok (.getfield 9, 3) := by decide +kernel
theorem dX8_readLine_47 : decode cX8_readLine 47 = .ok (.ldc 58, 2) := by decide +kernel
theorem dX8_readLine_49 : decode cX8_readLine 49 = .ok (.invokevirtual 48, 3) := by decide +kernel
theorem dX8_readLine_52 : decode cX8_readLine 52 = .ok (.ifCond .eq 10, 3) := by decide +kernel
theorem dX8_readLine_55 : decode cX8_readLine 55 = .ok (.aload_n 0, 1) := by decide +kernel
theorem dX8_readLine_56 : decode cX8_readLine 56 = .ok (.invokevirtual 60, 3) := by decide +kernel
theorem dX8_readLine_59 : decode cX8_readLine 59 = .ok (.goto 162, 3) := by decide +kernel
theorem dX8_readLine_62 : decode cX8_readLine 62 = .ok (.aload_n 0, 1) := by decide +kernel
theorem dX8_readLine_63 : decode cX8_readLine 63 = .ok (.getfield 15, 3) := by decide +kernel
theorem dX8_readLine_66 : decode cX8_readLine 66 = .ok (.getfield 63, 3) := by decide +kernel
theorem dX8_readLine_69 : decode cX8_readLine 69 = .ok (.bipush 8, 2) := by decide +kernel
theorem dX8_readLine_71 : decode cX8_readLine 71 = .ok (.if_icmp .ge 22, 3) := by decide +kernel
theorem dX8_readLine_74 : decode cX8_readLine 74 = .ok (.aload_n 0, 1) := by decide +kernel
theorem dX8_readLine_75 : decode cX8_readLine 75 = .ok (.getfield 9, 3) := by decide +kernel
theorem dX8_readLine_78 : decode cX8_readLine 78 = .ok (.ldc 66, 2) := by decide +kernel
theorem dX8_readLine_80 : decode cX8_readLine 80 = .ok (.invokevirtual 48, 3) := by decide +kernel
theorem dX8_readLine_83 : decode cX8_readLine 83 = .ok (.ifCond .eq 10, 3) := by decide +kernel
theorem dX8_readLine_86 : decode cX8_readLine 86 = .ok (.aload_n 0, 1) := by decide +kernel
theorem dX8_readLine_87 : decode cX8_readLine 87 = .ok (.invokevirtual 68, 3) := by decide +kernel
theorem dX8_readLine_90 : decode cX8_readLine 90 = .ok (.goto 131, 3) := by decide +kernel
theorem dX8_readLine_93 : decode cX8_readLine 93 = .ok (.aload_n 0, 1) := by decide +kernel
theorem dX8_readLine_94 : decode cX8_readLine 94 = .ok (.getfield 9, 3) := by decide +kernel
theorem dX8_readLine_97 : decode cX8_readLine 97 = .ok (.ldc 71, 2) := by decide +kernel
theorem dX8_readLine_99 : decode cX8_readLine 99 = .ok (.invokevirtual 48, 3) := by decide +kernel
theorem dX8_readLine_102 : decode cX8_readLine 102 = .ok (.ifCond .eq 10, 3) := by decide +kernel
theorem dX8_readLine_105 : decode cX8_readLine 105 = .ok (.aload_n 0, 1) := by decide +kernel
theorem dX8_readLine_106 : decode cX8_readLine 106 = .ok (.invokevirtual 73, 3) := by decide +kernel
theorem dX8_readLine_109 : decode cX8_readLine 109 = .ok (.goto 112, 3) := by decide +kernel
theorem dX8_readLine_112 : decode cX8_readLine 112 = .ok (.aload_n 0, 1) := by decide +kernel
theorem dX8_readLine_113 : decode cX8_readLine 113 = .ok (.getfield 9, 3) := by decide +kernel
theorem dX8_readLine_116 : decode cX8_readLine 116 = .ok (.ldc 76, 2) := by decide +kernel
theorem dX8_readLine_118 : decode cX8_readLine 118 = .ok (.invokevirtual 48, 3) := by decide +kernel
theorem dX8_readLine_121 : decode cX8_readLine 121 = .ok (.ifCond .eq 10, 3) := by decide +kernel
theorem dX8_readLine_124 : decode cX8_readLine 124 = .ok (.aload_n 0, 1) := by decide +kernel
theorem dX8_readLine_125 : decode cX8_readLine 125 = .ok (.invokevirtual 78, 3) := by decide +kernel
theorem dX8_readLine_128 : decode cX8_readLine 128 = .ok (.goto 93, 3) := by decide +kernel
theorem dX8_readLine_131 : decode cX8_readLine 131 = .ok (.aload_n 0, 1) := by decide +kernel
theorem dX8_readLine_132 : decode cX8_readLine 132 = .ok (.getfield 9, 3) := by decide +kernel
theorem dX8_readLine_135 : decode cX8_readLine 135 = .ok (.ldc 81, 2) := by decide +kernel
theorem dX8_readLine_137 : decode cX8_readLine 137 = .ok (.invokevirtual 48, 3) := by decide +kernel
theorem dX8_readLine_140 : decode cX8_readLine 140 = .ok (.ifCond .eq 10, 3) := by decide +kernel
theorem dX8_readLine_143 : decode cX8_readLine 143 = .ok (.aload_n 0, 1) := by decide +kernel
theorem dX8_readLine_144 : decode cX8_readLine 144 = .ok (.invokevirtual 83, 3) := by decide +kernel
theorem dX8_readLine_147 : decode cX8_readLine 147 = .ok (.goto 74, 3) := by decide +kernel
theorem dX8_readLine_150 : decode cX8_readLine 150 = .ok (.aload_n 0, 1) := by decide +kernel
theorem dX8_readLine_151 : decode cX8_readLine 151 = .ok (.getfield 9, 3) := by decide +kernel
theorem dX8_readLine_154 : decode cX8_readLine 154 = .ok (.ldc 86, 2) := by decide +kernel
theorem dX8_readLine_156 : decode cX8_readLine 156 = .ok (.invokevirtual 48, 3) := by decide +kernel
theorem dX8_readLine_159 : decode cX8_readLine 159 = .ok (.ifCond .eq 23, 3) := by decide +kernel
theorem dX8_readLine_162 : decode cX8_readLine 162 = .ok (.aload_n 0, 1) := by decide +kernel
theorem dX8_readLine_163 : decode cX8_readLine 163 = .ok (.getfield 15, 3) := by decide +kernel
theorem dX8_readLine_166 : decode cX8_readLine 166 = .ok (.aload_n 0, 1) := by decide +kernel
theorem dX8_readLine_167 : decode cX8_readLine 167 = .ok (.getfield 9, 3) := by decide +kernel
theorem dX8_readLine_170 : decode cX8_readLine 170 = .ok (.iconst 0, 1) := by decide +kernel
theorem dX8_readLine_171 : decode cX8_readLine 171 = .ok (.bipush 100, 2) := by decide +kernel
theorem dX8_readLine_173 : decode cX8_readLine 173 = .ok (.invokevirtual 88, 3) := by decide +kernel
theorem dX8_readLine_176 : decode cX8_readLine 176 = .ok (.putfield 92, 3) := by decide +kernel
theorem dX8_readLine_179 : decode cX8_readLine 179 = .ok (.goto 42, 3) := by decide +kernel
theorem dX8_readLine_182 : decode cX8_readLine 182 = .ok (.aload_n 0, 1) := by decide +kernel
theorem dX8_readLine_183 : decode cX8_readLine 183 = .ok (.getfield 9, 3) := by decide +kernel
theorem dX8_readLine_186 : decode cX8_readLine 186 = .ok (.ldc 94, 2) := by decide +kernel
theorem dX8_readLine_188 : decode cX8_readLine 188 = .ok (.invokevirtual 48, 3) := by decide +kernel
theorem dX8_readLine_191 : decode cX8_readLine 191 = .ok (.ifCond .eq 23, 3) := by decide +kernel
theorem dX8_readLine_194 : decode cX8_readLine 194 = .ok (.aload_n 0, 1) := by decide +kernel
theorem dX8_readLine_195 : decode cX8_readLine 195 = .ok (.getfield 15, 3) := by decide +kernel
theorem dX8_readLine_198 : decode cX8_readLine 198 = .ok (.aload_n 0, 1) := by decide +kernel
theorem dX8_readLine_199 : decode cX8_readLine 199 = .ok (.getfield 9, 3) := by decide +kernel
theorem dX8_readLine_202 : decode cX8_readLine 202 = .ok (.iconst 0, 1) := by decide +kernel
theorem dX8_readLine_203 : decode cX8_readLine 203 = .ok (.bipush 100, 2) := by decide +kernel
theorem dX8_readLine_205 : decode cX8_readLine 205 = .ok (.invokevirtual 88, 3) := by decide +kernel
theorem dX8_readLine_208 : decode cX8_readLine 208 = .ok (.putfield 96, 3) := by decide +kernel
theorem dX8_readLine_211 : decode cX8_readLine 211 = .ok (.goto 10, 3) := by decide +kernel
theorem dX8_readLine_214 : decode cX8_readLine 214 = .ok (.aload_n 0, 1) := by decide +kernel
theorem dX8_readLine_215 : decode cX8_readLine 215 = .ok (.getfield 9, 3) := by decide +kernel
theorem dX8_readLine_218 : decode cX8_readLine 218 = .ok (.invokevirtual 34, 3) := by decide +kernel
theorem dX8_readLine_221 : decode cX8_readLine 221 = .ok (.return_, 1) := by decide +kernel
theorem lf_RX8_63 : gLf RX8 63 6 6 := ⟨(RX6, TX6, 15), rfl, by decide, wA_t (wt2 (List.mem_of_getElem? (i := 23) (by decide +kernel))) (by decide +kernel), rfl⟩
theorem lv_RX8_48 : gLv RX8 48 RX7 yX7_takeWord cX7_takeWord 3 (some .boolean) 1 := gLv_of (wA_t (wt3 (List.mem_of_getElem? (i := 170) (by decide +kernel))) (by decide +kernel)) (wA_t (wt3 (List.mem_of_getElem? (i := 171) (by decide +kernel))) (by decide +kernel)) (wA_t (wt3 (List.mem_of_getElem? (i := 172) (by decide +kernel))) (by decide +kernel)) (wA_t (wt1 (List.mem_of_getElem? (i := 2) (by decide +kernel))) (by decide +kernel)) (wA_t (wt3 (List.mem_of_getElem? (i := 173) (by decide +kernel))) (by decide +kernel)) ⟨rfl, by decide +kernel, by decide +kernel, by decide +kernel⟩
theorem lp_RX8_96 : gLp RX8 96 6 9 := ⟨(RX6, TX6, 15), rfl, by decide, wA_t (wt2 (List.mem_of_getElem? (i := 31) (by decide +kernel))) (by decide +kernel), rfl, rfl⟩
theorem lp_RX8_92 : gLp RX8 92 6 8 := ⟨(RX6, TX6, 15), rfl, by decide, wA_t (wt2 (List.mem_of_getElem? (i := 28) (by decide +kernel))) (by decide +kernel), rfl, rfl⟩
theorem lv_RX8_83 : gLv RX8 83 RX8 yX8_readWhip cX8_readWhip 2 none 0 := gLv_of (wA_t (wt4 (List.mem_of_getElem? (i := 51) (by decide +kernel))) (by decide +kernel)) (wA_t (wt4 (List.mem_of_getElem? (i := 53) (by decide +kernel))) (by decide +kernel)) (wA_of (List.mem_append_left _ (List.mem_map.mpr ⟨(⟨"YearRope$WalkReader", "readWhip", "()V"⟩, 2), wp2 (List.mem_of_getElem? (i := 1) (by decide +kernel)), rfl⟩)) (by decide +kernel)) (wA_t (wt1 (List.mem_of_getElem? (i := 3) (by decide +kernel))) (by decide +kernel)) (wA_t (wt4 (List.mem_of_getElem? (i := 54) (by decide +kernel))) (by decide +kernel)) ⟨rfl, by decide +kernel, by decide +kernel, by decide +kernel⟩
theorem lv_RX8_78 : gLv RX8 78 RX8 yX8_readTar cX8_readTar 3 none 0 := gLv_of (wA_t (wt4 (List.mem_of_getElem? (i := 46) (by decide +kernel))) (by decide +kernel)) (wA_t (wt4 (List.mem_of_getElem? (i := 48) (by decide +kernel))) (by decide +kernel)) (wA_of (List.mem_append_left _ (List.mem_map.mpr ⟨(⟨"YearRope$WalkReader", "readTar", "()V"⟩, 2), wp2 (List.mem_of_getElem? (i := 0) (by decide +kernel)), rfl⟩)) (by decide +kernel)) (wA_t (wt1 (List.mem_of_getElem? (i := 3) (by decide +kernel))) (by decide +kernel)) (wA_t (wt4 (List.mem_of_getElem? (i := 49) (by decide +kernel))) (by decide +kernel)) ⟨rfl, by decide +kernel, by decide +kernel, by decide +kernel⟩
theorem lv_RX8_73 : gLv RX8 73 RX8 yX8_readHang cX8_readHang 3 none 0 := gLv_of (wA_t (wt4 (List.mem_of_getElem? (i := 37) (by decide +kernel))) (by decide +kernel)) (wA_t (wt4 (List.mem_of_getElem? (i := 39) (by decide +kernel))) (by decide +kernel)) (wA_of (List.mem_append_left _ (List.mem_map.mpr ⟨(⟨"YearRope$WalkReader", "readHang", "()V"⟩, 2), wp1 (List.mem_of_getElem? (i := 14) (by decide +kernel)), rfl⟩)) (by decide +kernel)) (wA_t (wt1 (List.mem_of_getElem? (i := 3) (by decide +kernel))) (by decide +kernel)) (wA_t (wt4 (List.mem_of_getElem? (i := 40) (by decide +kernel))) (by decide +kernel)) ⟨rfl, by decide +kernel, by decide +kernel, by decide +kernel⟩
theorem lv_RX8_68 : gLv RX8 68 RX8 yX8_readOrder cX8_readOrder 4 none 0 := gLv_of (wA_t (wt4 (List.mem_of_getElem? (i := 27) (by decide +kernel))) (by decide +kernel)) (wA_t (wt4 (List.mem_of_getElem? (i := 29) (by decide +kernel))) (by decide +kernel)) (wA_of (List.mem_append_left _ (List.mem_map.mpr ⟨(⟨"YearRope$WalkReader", "readOrder", "()V"⟩, 2), wp1 (List.mem_of_getElem? (i := 13) (by decide +kernel)), rfl⟩)) (by decide +kernel)) (wA_t (wt1 (List.mem_of_getElem? (i := 3) (by decide +kernel))) (by decide +kernel)) (wA_t (wt4 (List.mem_of_getElem? (i := 30) (by decide +kernel))) (by decide +kernel)) ⟨rfl, by decide +kernel, by decide +kernel, by decide +kernel⟩
theorem lv_RX8_60 : gLv RX8 60 RX8 yX8_readRope cX8_readRope 5 none 0 := gLv_of (wA_t (wt4 (List.mem_of_getElem? (i := 11) (by decide +kernel))) (by decide +kernel)) (wA_t (wt4 (List.mem_of_getElem? (i := 13) (by decide +kernel))) (by decide +kernel)) (wA_of (List.mem_append_left _ (List.mem_map.mpr ⟨(⟨"YearRope$WalkReader", "readRope", "()V"⟩, 2), wp1 (List.mem_of_getElem? (i := 11) (by decide +kernel)), rfl⟩)) (by decide +kernel)) (wA_t (wt1 (List.mem_of_getElem? (i := 3) (by decide +kernel))) (by decide +kernel)) (wA_t (wt4 (List.mem_of_getElem? (i := 14) (by decide +kernel))) (by decide +kernel)) ⟨rfl, by decide +kernel, by decide +kernel, by decide +kernel⟩
theorem lv_RX8_52 : gLv RX8 52 RX8 yX8_readYarn cX8_readYarn 5 none 0 := gLv_of (wA_t (wt3 (List.mem_of_getElem? (i := 222) (by decide +kernel))) (by decide +kernel)) (wA_t (wt3 (List.mem_of_getElem? (i := 224) (by decide +kernel))) (by decide +kernel)) (wA_of (List.mem_append_left _ (List.mem_map.mpr ⟨(⟨"YearRope$WalkReader", "readYarn", "()V"⟩, 2), wp1 (List.mem_of_getElem? (i := 10) (by decide +kernel)), rfl⟩)) (by decide +kernel)) (wA_t (wt1 (List.mem_of_getElem? (i := 3) (by decide +kernel))) (by decide +kernel)) (wA_t (wt3 (List.mem_of_getElem? (i := 225) (by decide +kernel))) (by decide +kernel)) ⟨rfl, by decide +kernel, by decide +kernel, by decide +kernel⟩
def rm_X8_readLine : Room := { frames := 7, cells := 0, slots := 0, locals := 227 }
def k_X8_readLine_93 (τ : gτ) (n : Nat) (x0 : Nat)  (G : gG) : Option (gG) :=
  (gr G 8 0 x0).bind fun a4 =>
  gBind2 (f_X7_takeWord τ n a4 s_hang G) fun v6 G7 =>
  if v6 = 0 then ((gr G7 8 0 x0).bind fun a8 =>
  gBind2 (f_X7_takeWord τ n a8 s_tar G7) fun v10 G11 =>
  if v10 = 0 then ((gr G11 8 0 x0).bind fun a12 =>
  gBind2 (f_X7_takeWord τ n a12 s_whip G11) fun v14 G15 =>
  if v14 = 0 then ((gr G15 8 0 x0).bind fun a16 =>
  gBind2 (f_X7_takeWord τ n a16 s_gale G15) fun v18 G19 =>
  if v18 = 0 then ((gr G19 8 0 x0).bind fun a20 =>
  gBind2 (f_X7_takeWord τ n a20 s_damp G19) fun v22 G23 =>
  if v22 = 0 then ((gr G23 8 0 x0).bind fun a24 =>
  (f_X7_refuse a24 G23).bind fun G25 =>
  some G25)
  else ((gr G23 8 1 x0).bind fun a26 =>
  (gr G23 8 0 x0).bind fun a27 =>
  gBind2 (f_X7_takeNumber τ n a27 (0 : Int32) (100 : Int32) G23) fun v28 G29 =>
  gLet (gsi G29 6 9 a26 v28) fun G30 =>
  some G30))
  else ((gr G19 8 1 x0).bind fun a31 =>
  (gr G19 8 0 x0).bind fun a32 =>
  gBind2 (f_X7_takeNumber τ n a32 (0 : Int32) (100 : Int32) G19) fun v33 G34 =>
  gLet (gsi G34 6 8 a31 v33) fun G35 =>
  some G35))
  else ((f_X8_readWhip τ n x0 G15).bind fun G36 =>
  some G36))
  else ((f_X8_readTar τ n x0 G11).bind fun G37 =>
  some G37))
  else ((f_X8_readHang τ n x0 G7).bind fun G38 =>
  some G38)
def k_X8_readLine_62 (τ : gτ) (n : Nat) (x0 : Nat)  (G : gG) : Option (gG) :=
  (gr G 8 1 x0).bind fun a3 =>
  if (8 : Int32) ≤ (gi G 6 6 a3) then (k_X8_readLine_93 τ n x0  G)
  else ((gr G 8 0 x0).bind fun a39 =>
  gBind2 (f_X7_takeWord τ n a39 s_order G) fun v41 G42 =>
  if v41 = 0 then (k_X8_readLine_93 τ n x0  G42)
  else ((f_X8_readOrder τ n x0 G42).bind fun G43 =>
  some G43))
def k_X8_readLine_31 (τ : gτ) (n : Nat) (x0 : Nat)  (G : gG) : Option (gG) :=
  (gr G 8 1 x0).bind fun a2 =>
  if (8 : Int32) ≤ (gi G 6 5 a2) then (k_X8_readLine_62 τ n x0  G)
  else ((gr G 8 0 x0).bind fun a44 =>
  gBind2 (f_X7_takeWord τ n a44 s_rope G) fun v46 G47 =>
  if v46 = 0 then (k_X8_readLine_62 τ n x0  G47)
  else ((f_X8_readRope τ n x0 G47).bind fun G48 =>
  some G48))
def f_X8_readLine (τ : gτ) (n : Nat) (x0 : Nat) (G : gG) : Option (gG) :=
  (gr G 8 1 x0).bind fun a1 =>
  if (10 : Int32) ≤ (gi G 6 4 a1) then (k_X8_readLine_31 τ n x0  G)
  else ((gr G 8 0 x0).bind fun a49 =>
  gBind2 (f_X7_takeWord τ n a49 s_yarn G) fun v51 G52 =>
  if v51 = 0 then (k_X8_readLine_31 τ n x0  G52)
  else ((f_X8_readYarn τ n x0 G52).bind fun G53 =>
  some G53))
set_option maxHeartbeats 4000000 in
set_option maxRecDepth 100000 in
theorem w_X8_readLine_93 {X : gX} {τ : gτ} {p : Program} {l : Launch} {e : Env} {s : State} {m : MethodId} {args : Array Value} {below : List Frame} {meth : Method} {c : Code} (fx : gFx X p s m args meth c cX8_readLine 1 RX8) (hS : gS0 l X) (n : Nat) (x0 : Nat)  (h0 : gK τ x0 8)  (hr : meth.sig.returnType = none) {G' : gG} {G : gG} {H : Heap} {locs : List Loc} {ls : Array Slot} (hw : gHw X τ G H locs) (hl : lv_has ls 1 [(0, .ref x0)]) (hok : gOk (k_X8_readLine_93 τ n x0  G) (fun q => q = G'))  : W p l e rm_X8_readLine s m args below meth c H locs 0 0 (MQ below (gQ X τ none G') args s 0 0 (gFree X)) (F0 m 93 ls []) := by
  unfold k_X8_readLine_93 at hok
  refine lv_aload_n fx.1 fx.2.1 dX8_readLine_93 rfl (lv_at hl 0 rfl) ?_
  refine g_getr fx hw h0 lf_RX8_9 rfl dX8_readLine_94 hok (fun a4 h_a4 hok => ?_)
  refine g_ldcS fx hS gt_RX8_71 dX8_readLine_97 (fun w5 h_w5 => ?_)
  obtain ⟨v6, G7, hf, hok⟩ := gOk_bind2 hok
  refine g_callV0 (κ := 7) fx hw (c_X7_takeWord l X τ n hS a4 s_hang G h_a4 h_w5 hf) lv_RX8_48 ⟨rfl, rfl⟩ rfl rfl h_a4 rfl hl.1 rfl ⟨Nat.le_of_ble_eq_true rfl, Nat.le_of_ble_eq_true rfl⟩ (Nat.le_of_ble_eq_true rfl) ⟨Nat.le_of_ble_eq_true rfl, Nat.le_of_ble_eq_true rfl⟩ dX8_readLine_99 (fun H locs hw => ?_)
  refine g_if_eq (tgt := 112) fx dX8_readLine_102 (by decide) hok (fun hok => ?_) (fun hok => ?_)
  · refine lv_aload_n fx.1 fx.2.1 dX8_readLine_112 rfl (lv_at hl 0 rfl) ?_
    refine g_getr fx hw h0 lf_RX8_9 rfl dX8_readLine_113 hok (fun a8 h_a8 hok => ?_)
    refine g_ldcS fx hS gt_RX8_76 dX8_readLine_116 (fun w9 h_w9 => ?_)
    obtain ⟨v10, G11, hf, hok⟩ := gOk_bind2 hok
    refine g_callV0 (κ := 7) fx hw (c_X7_takeWord l X τ n hS a8 s_tar G7 h_a8 h_w9 hf) lv_RX8_48 ⟨rfl, rfl⟩ rfl rfl h_a8 rfl hl.1 rfl ⟨Nat.le_of_ble_eq_true rfl, Nat.le_of_ble_eq_true rfl⟩ (Nat.le_of_ble_eq_true rfl) ⟨Nat.le_of_ble_eq_true rfl, Nat.le_of_ble_eq_true rfl⟩ dX8_readLine_118 (fun H locs hw => ?_)
    refine g_if_eq (tgt := 131) fx dX8_readLine_121 (by decide) hok (fun hok => ?_) (fun hok => ?_)
    · refine lv_aload_n fx.1 fx.2.1 dX8_readLine_131 rfl (lv_at hl 0 rfl) ?_
      refine g_getr fx hw h0 lf_RX8_9 rfl dX8_readLine_132 hok (fun a12 h_a12 hok => ?_)
      refine g_ldcS fx hS gt_RX8_81 dX8_readLine_135 (fun w13 h_w13 => ?_)
      obtain ⟨v14, G15, hf, hok⟩ := gOk_bind2 hok
      refine g_callV0 (κ := 7) fx hw (c_X7_takeWord l X τ n hS a12 s_whip G11 h_a12 h_w13 hf) lv_RX8_48 ⟨rfl, rfl⟩ rfl rfl h_a12 rfl hl.1 rfl ⟨Nat.le_of_ble_eq_true rfl, Nat.le_of_ble_eq_true rfl⟩ (Nat.le_of_ble_eq_true rfl) ⟨Nat.le_of_ble_eq_true rfl, Nat.le_of_ble_eq_true rfl⟩ dX8_readLine_137 (fun H locs hw => ?_)
      refine g_if_eq (tgt := 150) fx dX8_readLine_140 (by decide) hok (fun hok => ?_) (fun hok => ?_)
      · refine lv_aload_n fx.1 fx.2.1 dX8_readLine_150 rfl (lv_at hl 0 rfl) ?_
        refine g_getr fx hw h0 lf_RX8_9 rfl dX8_readLine_151 hok (fun a16 h_a16 hok => ?_)
        refine g_ldcS fx hS gt_RX8_86 dX8_readLine_154 (fun w17 h_w17 => ?_)
        obtain ⟨v18, G19, hf, hok⟩ := gOk_bind2 hok
        refine g_callV0 (κ := 7) fx hw (c_X7_takeWord l X τ n hS a16 s_gale G15 h_a16 h_w17 hf) lv_RX8_48 ⟨rfl, rfl⟩ rfl rfl h_a16 rfl hl.1 rfl ⟨Nat.le_of_ble_eq_true rfl, Nat.le_of_ble_eq_true rfl⟩ (Nat.le_of_ble_eq_true rfl) ⟨Nat.le_of_ble_eq_true rfl, Nat.le_of_ble_eq_true rfl⟩ dX8_readLine_156 (fun H locs hw => ?_)
        refine g_if_eq (tgt := 182) fx dX8_readLine_159 (by decide) hok (fun hok => ?_) (fun hok => ?_)
        · refine lv_aload_n fx.1 fx.2.1 dX8_readLine_182 rfl (lv_at hl 0 rfl) ?_
          refine g_getr fx hw h0 lf_RX8_9 rfl dX8_readLine_183 hok (fun a20 h_a20 hok => ?_)
          refine g_ldcS fx hS gt_RX8_94 dX8_readLine_186 (fun w21 h_w21 => ?_)
          obtain ⟨v22, G23, hf, hok⟩ := gOk_bind2 hok
          refine g_callV0 (κ := 7) fx hw (c_X7_takeWord l X τ n hS a20 s_damp G19 h_a20 h_w21 hf) lv_RX8_48 ⟨rfl, rfl⟩ rfl rfl h_a20 rfl hl.1 rfl ⟨Nat.le_of_ble_eq_true rfl, Nat.le_of_ble_eq_true rfl⟩ (Nat.le_of_ble_eq_true rfl) ⟨Nat.le_of_ble_eq_true rfl, Nat.le_of_ble_eq_true rfl⟩ dX8_readLine_188 (fun H locs hw => ?_)
          refine g_if_eq (tgt := 214) fx dX8_readLine_191 (by decide) hok (fun hok => ?_) (fun hok => ?_)
          · refine lv_aload_n fx.1 fx.2.1 dX8_readLine_214 rfl (lv_at hl 0 rfl) ?_
            refine g_getr fx hw h0 lf_RX8_9 rfl dX8_readLine_215 hok (fun a24 h_a24 hok => ?_)
            obtain ⟨G25, hf, hok⟩ := gOk_bind hok
            refine g_callV0 (κ := 7) fx hw (c_X7_refuse l X τ a24 G23 h_a24 hf) lv_RX8_34 ⟨rfl, rfl⟩ rfl rfl h_a24 rfl hl.1 rfl ⟨Nat.le_of_ble_eq_true rfl, Nat.le_of_ble_eq_true rfl⟩ (Nat.le_of_ble_eq_true rfl) ⟨Nat.le_of_ble_eq_true rfl, Nat.le_of_ble_eq_true rfl⟩ dX8_readLine_218 (fun H locs hw => ?_)
            cases gOk_some hok
            exact g_vret fx hw hr dX8_readLine_221
          · refine lv_aload_n fx.1 fx.2.1 dX8_readLine_194 rfl (lv_at hl 0 rfl) ?_
            refine g_getr fx hw h0 lf_RX8_15 rfl dX8_readLine_195 hok (fun a26 h_a26 hok => ?_)
            refine lv_aload_n fx.1 fx.2.1 dX8_readLine_198 rfl (lv_at hl 0 rfl) ?_
            refine g_getr fx hw h0 lf_RX8_9 rfl dX8_readLine_199 hok (fun a27 h_a27 hok => ?_)
            refine lv_iconst (v := 0) fx.1 fx.2.1 dX8_readLine_202 (by decide) ?_
            refine lv_bipush (v := 100) fx.1 fx.2.1 dX8_readLine_203 (by decide) ?_
            obtain ⟨v28, G29, hf, hok⟩ := gOk_bind2 hok
            refine g_callV0 (κ := 7) fx hw (c_X7_takeNumber l X τ n a27 (0 : Int32) (100 : Int32) G23 h_a27 hf) lv_RX8_88 ⟨rfl, rfl⟩ rfl rfl h_a27 rfl hl.1 rfl ⟨Nat.le_of_ble_eq_true rfl, Nat.le_of_ble_eq_true rfl⟩ (Nat.le_of_ble_eq_true rfl) ⟨Nat.le_of_ble_eq_true rfl, Nat.le_of_ble_eq_true rfl⟩ dX8_readLine_205 (fun H locs hw => ?_)
            refine g_puti fx hw h_a26 lp_RX8_96 rfl rfl dX8_readLine_208 hok (fun G30 H locs hw hok => ?_)
            refine lv_goto (tgt := 221) fx.1 fx.2.1 dX8_readLine_211 (by decide) ?_
            cases gOk_some hok
            exact g_vret fx hw hr dX8_readLine_221
        · refine lv_aload_n fx.1 fx.2.1 dX8_readLine_162 rfl (lv_at hl 0 rfl) ?_
          refine g_getr fx hw h0 lf_RX8_15 rfl dX8_readLine_163 hok (fun a31 h_a31 hok => ?_)
          refine lv_aload_n fx.1 fx.2.1 dX8_readLine_166 rfl (lv_at hl 0 rfl) ?_
          refine g_getr fx hw h0 lf_RX8_9 rfl dX8_readLine_167 hok (fun a32 h_a32 hok => ?_)
          refine lv_iconst (v := 0) fx.1 fx.2.1 dX8_readLine_170 (by decide) ?_
          refine lv_bipush (v := 100) fx.1 fx.2.1 dX8_readLine_171 (by decide) ?_
          obtain ⟨v33, G34, hf, hok⟩ := gOk_bind2 hok
          refine g_callV0 (κ := 7) fx hw (c_X7_takeNumber l X τ n a32 (0 : Int32) (100 : Int32) G19 h_a32 hf) lv_RX8_88 ⟨rfl, rfl⟩ rfl rfl h_a32 rfl hl.1 rfl ⟨Nat.le_of_ble_eq_true rfl, Nat.le_of_ble_eq_true rfl⟩ (Nat.le_of_ble_eq_true rfl) ⟨Nat.le_of_ble_eq_true rfl, Nat.le_of_ble_eq_true rfl⟩ dX8_readLine_173 (fun H locs hw => ?_)
          refine g_puti fx hw h_a31 lp_RX8_92 rfl rfl dX8_readLine_176 hok (fun G35 H locs hw hok => ?_)
          refine lv_goto (tgt := 221) fx.1 fx.2.1 dX8_readLine_179 (by decide) ?_
          cases gOk_some hok
          exact g_vret fx hw hr dX8_readLine_221
      · refine lv_aload_n fx.1 fx.2.1 dX8_readLine_143 rfl (lv_at hl 0 rfl) ?_
        obtain ⟨G36, hf, hok⟩ := gOk_bind hok
        refine g_callV0 (κ := 8) fx hw (c_X8_readWhip l X τ n x0 G15 h0 hf) lv_RX8_83 ⟨rfl, rfl⟩ rfl rfl h0 rfl hl.1 rfl ⟨Nat.le_of_ble_eq_true rfl, Nat.le_of_ble_eq_true rfl⟩ (Nat.le_of_ble_eq_true rfl) ⟨Nat.le_of_ble_eq_true rfl, Nat.le_of_ble_eq_true rfl⟩ dX8_readLine_144 (fun H locs hw => ?_)
        refine lv_goto (tgt := 221) fx.1 fx.2.1 dX8_readLine_147 (by decide) ?_
        cases gOk_some hok
        exact g_vret fx hw hr dX8_readLine_221
    · refine lv_aload_n fx.1 fx.2.1 dX8_readLine_124 rfl (lv_at hl 0 rfl) ?_
      obtain ⟨G37, hf, hok⟩ := gOk_bind hok
      refine g_callV0 (κ := 8) fx hw (c_X8_readTar l X τ n x0 G11 h0 hf) lv_RX8_78 ⟨rfl, rfl⟩ rfl rfl h0 rfl hl.1 rfl ⟨Nat.le_of_ble_eq_true rfl, Nat.le_of_ble_eq_true rfl⟩ (Nat.le_of_ble_eq_true rfl) ⟨Nat.le_of_ble_eq_true rfl, Nat.le_of_ble_eq_true rfl⟩ dX8_readLine_125 (fun H locs hw => ?_)
      refine lv_goto (tgt := 221) fx.1 fx.2.1 dX8_readLine_128 (by decide) ?_
      cases gOk_some hok
      exact g_vret fx hw hr dX8_readLine_221
  · refine lv_aload_n fx.1 fx.2.1 dX8_readLine_105 rfl (lv_at hl 0 rfl) ?_
    obtain ⟨G38, hf, hok⟩ := gOk_bind hok
    refine g_callV0 (κ := 8) fx hw (c_X8_readHang l X τ n x0 G7 h0 hf) lv_RX8_73 ⟨rfl, rfl⟩ rfl rfl h0 rfl hl.1 rfl ⟨Nat.le_of_ble_eq_true rfl, Nat.le_of_ble_eq_true rfl⟩ (Nat.le_of_ble_eq_true rfl) ⟨Nat.le_of_ble_eq_true rfl, Nat.le_of_ble_eq_true rfl⟩ dX8_readLine_106 (fun H locs hw => ?_)
    refine lv_goto (tgt := 221) fx.1 fx.2.1 dX8_readLine_109 (by decide) ?_
    cases gOk_some hok
    exact g_vret fx hw hr dX8_readLine_221
set_option maxHeartbeats 4000000 in
set_option maxRecDepth 100000 in
theorem w_X8_readLine_62 {X : gX} {τ : gτ} {p : Program} {l : Launch} {e : Env} {s : State} {m : MethodId} {args : Array Value} {below : List Frame} {meth : Method} {c : Code} (fx : gFx X p s m args meth c cX8_readLine 1 RX8) (hS : gS0 l X) (n : Nat) (x0 : Nat)  (h0 : gK τ x0 8)  (hr : meth.sig.returnType = none) {G' : gG} {G : gG} {H : Heap} {locs : List Loc} {ls : Array Slot} (hw : gHw X τ G H locs) (hl : lv_has ls 1 [(0, .ref x0)]) (hok : gOk (k_X8_readLine_62 τ n x0  G) (fun q => q = G'))  : W p l e rm_X8_readLine s m args below meth c H locs 0 0 (MQ below (gQ X τ none G') args s 0 0 (gFree X)) (F0 m 62 ls []) := by
  unfold k_X8_readLine_62 at hok
  refine lv_aload_n fx.1 fx.2.1 dX8_readLine_62 rfl (lv_at hl 0 rfl) ?_
  refine g_getr fx hw h0 lf_RX8_15 rfl dX8_readLine_63 hok (fun a3 h_a3 hok => ?_)
  refine g_geti fx hw h_a3 lf_RX8_63 rfl dX8_readLine_66 ?_
  refine lv_bipush (v := 8) fx.1 fx.2.1 dX8_readLine_69 (by decide) ?_
  refine g_icmp_ge (tgt := 93) fx dX8_readLine_71 (by decide) hok (fun hok => ?_) (fun hok => ?_)
  · exact w_X8_readLine_93 fx hS n x0  h0  hr hw (lv_sub hl [0] rfl) hok
  · refine lv_aload_n fx.1 fx.2.1 dX8_readLine_74 rfl (lv_at hl 0 rfl) ?_
    refine g_getr fx hw h0 lf_RX8_9 rfl dX8_readLine_75 hok (fun a39 h_a39 hok => ?_)
    refine g_ldcS fx hS gt_RX8_66 dX8_readLine_78 (fun w40 h_w40 => ?_)
    obtain ⟨v41, G42, hf, hok⟩ := gOk_bind2 hok
    refine g_callV0 (κ := 7) fx hw (c_X7_takeWord l X τ n hS a39 s_order G h_a39 h_w40 hf) lv_RX8_48 ⟨rfl, rfl⟩ rfl rfl h_a39 rfl hl.1 rfl ⟨Nat.le_of_ble_eq_true rfl, Nat.le_of_ble_eq_true rfl⟩ (Nat.le_of_ble_eq_true rfl) ⟨Nat.le_of_ble_eq_true rfl, Nat.le_of_ble_eq_true rfl⟩ dX8_readLine_80 (fun H locs hw => ?_)
    refine g_if_eq (tgt := 93) fx dX8_readLine_83 (by decide) hok (fun hok => ?_) (fun hok => ?_)
    · exact w_X8_readLine_93 fx hS n x0  h0  hr hw (lv_sub hl [0] rfl) hok
    · refine lv_aload_n fx.1 fx.2.1 dX8_readLine_86 rfl (lv_at hl 0 rfl) ?_
      obtain ⟨G43, hf, hok⟩ := gOk_bind hok
      refine g_callV0 (κ := 8) fx hw (c_X8_readOrder l X τ n hS x0 G42 h0 hf) lv_RX8_68 ⟨rfl, rfl⟩ rfl rfl h0 rfl hl.1 rfl ⟨Nat.le_of_ble_eq_true rfl, Nat.le_of_ble_eq_true rfl⟩ (Nat.le_of_ble_eq_true rfl) ⟨Nat.le_of_ble_eq_true rfl, Nat.le_of_ble_eq_true rfl⟩ dX8_readLine_87 (fun H locs hw => ?_)
      refine lv_goto (tgt := 221) fx.1 fx.2.1 dX8_readLine_90 (by decide) ?_
      cases gOk_some hok
      exact g_vret fx hw hr dX8_readLine_221
set_option maxHeartbeats 4000000 in
set_option maxRecDepth 100000 in
theorem w_X8_readLine_31 {X : gX} {τ : gτ} {p : Program} {l : Launch} {e : Env} {s : State} {m : MethodId} {args : Array Value} {below : List Frame} {meth : Method} {c : Code} (fx : gFx X p s m args meth c cX8_readLine 1 RX8) (hS : gS0 l X) (n : Nat) (x0 : Nat)  (h0 : gK τ x0 8)  (hr : meth.sig.returnType = none) {G' : gG} {G : gG} {H : Heap} {locs : List Loc} {ls : Array Slot} (hw : gHw X τ G H locs) (hl : lv_has ls 1 [(0, .ref x0)]) (hok : gOk (k_X8_readLine_31 τ n x0  G) (fun q => q = G'))  : W p l e rm_X8_readLine s m args below meth c H locs 0 0 (MQ below (gQ X τ none G') args s 0 0 (gFree X)) (F0 m 31 ls []) := by
  unfold k_X8_readLine_31 at hok
  refine lv_aload_n fx.1 fx.2.1 dX8_readLine_31 rfl (lv_at hl 0 rfl) ?_
  refine g_getr fx hw h0 lf_RX8_15 rfl dX8_readLine_32 hok (fun a2 h_a2 hok => ?_)
  refine g_geti fx hw h_a2 lf_RX8_55 rfl dX8_readLine_35 ?_
  refine lv_bipush (v := 8) fx.1 fx.2.1 dX8_readLine_38 (by decide) ?_
  refine g_icmp_ge (tgt := 62) fx dX8_readLine_40 (by decide) hok (fun hok => ?_) (fun hok => ?_)
  · exact w_X8_readLine_62 fx hS n x0  h0  hr hw (lv_sub hl [0] rfl) hok
  · refine lv_aload_n fx.1 fx.2.1 dX8_readLine_43 rfl (lv_at hl 0 rfl) ?_
    refine g_getr fx hw h0 lf_RX8_9 rfl dX8_readLine_44 hok (fun a44 h_a44 hok => ?_)
    refine g_ldcS fx hS gt_RX8_58 dX8_readLine_47 (fun w45 h_w45 => ?_)
    obtain ⟨v46, G47, hf, hok⟩ := gOk_bind2 hok
    refine g_callV0 (κ := 7) fx hw (c_X7_takeWord l X τ n hS a44 s_rope G h_a44 h_w45 hf) lv_RX8_48 ⟨rfl, rfl⟩ rfl rfl h_a44 rfl hl.1 rfl ⟨Nat.le_of_ble_eq_true rfl, Nat.le_of_ble_eq_true rfl⟩ (Nat.le_of_ble_eq_true rfl) ⟨Nat.le_of_ble_eq_true rfl, Nat.le_of_ble_eq_true rfl⟩ dX8_readLine_49 (fun H locs hw => ?_)
    refine g_if_eq (tgt := 62) fx dX8_readLine_52 (by decide) hok (fun hok => ?_) (fun hok => ?_)
    · exact w_X8_readLine_62 fx hS n x0  h0  hr hw (lv_sub hl [0] rfl) hok
    · refine lv_aload_n fx.1 fx.2.1 dX8_readLine_55 rfl (lv_at hl 0 rfl) ?_
      obtain ⟨G48, hf, hok⟩ := gOk_bind hok
      refine g_callV0 (κ := 8) fx hw (c_X8_readRope l X τ n hS x0 G47 h0 hf) lv_RX8_60 ⟨rfl, rfl⟩ rfl rfl h0 rfl hl.1 rfl ⟨Nat.le_of_ble_eq_true rfl, Nat.le_of_ble_eq_true rfl⟩ (Nat.le_of_ble_eq_true rfl) ⟨Nat.le_of_ble_eq_true rfl, Nat.le_of_ble_eq_true rfl⟩ dX8_readLine_56 (fun H locs hw => ?_)
      refine lv_goto (tgt := 221) fx.1 fx.2.1 dX8_readLine_59 (by decide) ?_
      cases gOk_some hok
      exact g_vret fx hw hr dX8_readLine_221
set_option maxHeartbeats 4000000 in
set_option maxRecDepth 100000 in
theorem c_X8_readLine (l : Launch) (X : gX) (τ : gτ) (n : Nat) (hS : gS0 l X) (x0 : Nat) (G : gG) (h0 : gK τ x0 8) {G' : gG} (h : f_X8_readLine τ n x0 G = some G') : gM l X τ yX8_readLine cX8_readLine 1 none rm_X8_readLine [.ref x0] G none G' := by
  refine g_body (by decide +kernel) (Nat.le_of_ble_eq_true rfl) ?_
  intro p e s m args below meth c ls fx hr hw hl
  have fx : gFx X p s m args meth c cX8_readLine 1 RX8 := fx
  have hl : lv_has ls 1 [(0, .ref x0)] := hl
  have hok : gOk (f_X8_readLine τ n x0 G) (fun q => q = G') := ⟨_, h, rfl⟩
  unfold f_X8_readLine at hok
  show W p l e rm_X8_readLine s m args below meth c s.heap [] 0 0 (MQ below (gQ X τ none G') args s 0 0 (gFree X)) _
  refine lv_aload_n fx.1 fx.2.1 dX8_readLine_0 rfl (lv_at hl 0 rfl) ?_
  refine g_getr fx hw h0 lf_RX8_15 rfl dX8_readLine_1 hok (fun a1 h_a1 hok => ?_)
  refine g_geti fx hw h_a1 lf_RX8_40 rfl dX8_readLine_4 ?_
  refine lv_bipush (v := 10) fx.1 fx.2.1 dX8_readLine_7 (by decide) ?_
  refine g_icmp_ge (tgt := 31) fx dX8_readLine_9 (by decide) hok (fun hok => ?_) (fun hok => ?_)
  · exact w_X8_readLine_31 fx hS n x0  h0  hr hw (lv_sub hl [0] rfl) hok
  · refine lv_aload_n fx.1 fx.2.1 dX8_readLine_12 rfl (lv_at hl 0 rfl) ?_
    refine g_getr fx hw h0 lf_RX8_9 rfl dX8_readLine_13 hok (fun a49 h_a49 hok => ?_)
    refine g_ldcS fx hS gt_RX8_46 dX8_readLine_16 (fun w50 h_w50 => ?_)
    obtain ⟨v51, G52, hf, hok⟩ := gOk_bind2 hok
    refine g_callV0 (κ := 7) fx hw (c_X7_takeWord l X τ n hS a49 s_yarn G h_a49 h_w50 hf) lv_RX8_48 ⟨rfl, rfl⟩ rfl rfl h_a49 rfl hl.1 rfl ⟨Nat.le_of_ble_eq_true rfl, Nat.le_of_ble_eq_true rfl⟩ (Nat.le_of_ble_eq_true rfl) ⟨Nat.le_of_ble_eq_true rfl, Nat.le_of_ble_eq_true rfl⟩ dX8_readLine_18 (fun H locs hw => ?_)
    refine g_if_eq (tgt := 31) fx dX8_readLine_21 (by decide) hok (fun hok => ?_) (fun hok => ?_)
    · exact w_X8_readLine_31 fx hS n x0  h0  hr hw (lv_sub hl [0] rfl) hok
    · refine lv_aload_n fx.1 fx.2.1 dX8_readLine_24 rfl (lv_at hl 0 rfl) ?_
      obtain ⟨G53, hf, hok⟩ := gOk_bind hok
      refine g_callV0 (κ := 8) fx hw (c_X8_readYarn l X τ n hS x0 G52 h0 hf) lv_RX8_52 ⟨rfl, rfl⟩ rfl rfl h0 rfl hl.1 rfl ⟨Nat.le_of_ble_eq_true rfl, Nat.le_of_ble_eq_true rfl⟩ (Nat.le_of_ble_eq_true rfl) ⟨Nat.le_of_ble_eq_true rfl, Nat.le_of_ble_eq_true rfl⟩ dX8_readLine_25 (fun H locs hw => ?_)
      refine lv_goto (tgt := 221) fx.1 fx.2.1 dX8_readLine_28 (by decide) ?_
      cases gOk_some hok
      exact g_vret fx hw hr dX8_readLine_221
