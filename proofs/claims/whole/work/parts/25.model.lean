theorem dX11_keepsAll_0 : decode cX11_keepsAll 0 = .ok (.iconst 0, 1) := by decide +kernel
theorem dX11_keepsAll_1 : decode cX11_keepsAll 1 = .ok (.istore_n 1, 1) := by decide +kernel
theorem dX11_keepsAll_2 : decode cX11_keepsAll 2 = .ok (.iload_n 1, 1) := by decide +kernel
theorem dX11_keepsAll_3 : decode cX11_keepsAll 3 = .ok (.sipush 467, 3) := by decide +kernel
theorem dX11_keepsAll_6 : decode cX11_keepsAll 6 = .ok (.if_icmp .ge 21, 3) := by decide +kernel
theorem dX11_keepsAll_9 : decode cX11_keepsAll 9 = .ok (.aload_n 0, 1) := by decide +kernel
theorem dX11_keepsAll_10 : decode cX11_keepsAll 10 = .ok (.getfield 23, 3) := by decide +kernel
theorem dX11_keepsAll_13 : decode cX11_keepsAll 13 = .ok (.iload_n 1, 1) := by decide +kernel
theorem dX11_keepsAll_14 : decode cX11_keepsAll 14 = .ok (.aload_n 0, 1) := by decide +kernel
theorem dX11_keepsAll_15 : decode cX11_keepsAll 15 = .ok (.getfield 13, 3) := by decide +kernel
theorem dX11_keepsAll_18 : decode cX11_keepsAll 18 = .ok (.iload_n 1, 1) := by decide +kernel
theorem dX11_keepsAll_19 : decode cX11_keepsAll 19 = .ok (.iaload, 1) := by decide +kernel
theorem dX11_keepsAll_20 : decode cX11_keepsAll 20 = .ok (.iastore, 1) := by decide +kernel
theorem dX11_keepsAll_21 : decode cX11_keepsAll 21 = .ok (.iinc 1 1, 3) := by decide +kernel
theorem dX11_keepsAll_24 : decode cX11_keepsAll 24 = .ok (.goto (-22), 3) := by decide +kernel
theorem dX11_keepsAll_27 : decode cX11_keepsAll 27 = .ok (.return_, 1) := by decide +kernel
theorem lf_RX11_23 : gLf RX11 23 11 4 := ⟨(RX11, TX11, 20), rfl, by decide, wA_t (wt6 (List.mem_of_getElem? (i := 217) (by decide +kernel))) (by decide +kernel), rfl⟩
def rm_X11_keepsAll : Room := { frames := 0, cells := 0, slots := 0, locals := 0 }
def b_X11_keepsAll_2 (τ : gτ) (n : Nat) (x0 : Nat) (x1 : Int32) (G : gG) : Option ((Int32 × gG) ⊕ ((gG))) :=
  if (467 : Int32) ≤ x1 then (some (.inr G))
  else ((gr G 11 4 x0).bind fun a1 =>
  (gr G 11 1 x0).bind fun a2 =>
  gchk (gIn x1 (gn τ a2)) <|
  gchk (gIn x1 (gn τ a1)) <| gLet (gse G a1 (Int32.toNatClampNeg x1) (ge G a2 (Int32.toNatClampNeg x1))) fun G3 =>
  gLet (x1 + 1) fun v4 =>
  some (.inl (v4, G3)))
def l_X11_keepsAll_2 (τ : gτ) (n : Nat) (x0 : Nat) (x1 : Int32) (G : gG) : Option ((gG)) :=
  gIter (fun (q : Int32 × gG) => b_X11_keepsAll_2 τ n x0 q.1 q.2) n (x1, G)
def f_X11_keepsAll (τ : gτ) (n : Nat) (x0 : Nat) (G : gG) : Option (gG) :=
  (l_X11_keepsAll_2 τ n x0 (0 : Int32) G).bind fun q => gLet q fun G5 => 
  some G5
set_option maxHeartbeats 4000000 in
set_option maxRecDepth 100000 in
theorem w_b_X11_keepsAll_2 {X : gX} {τ : gτ} {p : Program} {l : Launch} {e : Env} {s : State} {m : MethodId} {args : Array Value} {below : List Frame} {meth : Method} {c : Code} (fx : gFx X p s m args meth c cX11_keepsAll 2 RX11) (n : Nat) (x0 : Nat) (x1 : Int32) (h0 : gK τ x0 11) {Q : State → Prop} {K : ((Int32 × gG) ⊕ ((gG))) → Prop} {G : gG} {H : Heap} {locs : List Loc} {ls : Array Slot} (hw : gHw X τ G H locs) (hl : lv_has ls 2 [(0, .ref x0), (1, .int x1)]) (hok : gOk (b_X11_keepsAll_2 τ n x0 x1 G) K) (hc : ∀ (y1 : Int32) (G : gG) (H : Heap) (locs : List Loc) (ls : Array Slot), gHw X τ G H locs → lv_has ls 2 [(0, .ref x0), (1, .int y1)] → K (.inl (y1, G)) → W p l e rm_X11_keepsAll s m args below meth c H locs 0 0 Q (F0 m 2 ls [])) (hx0 : ∀ (G : gG) (H : Heap) (locs : List Loc) (ls : Array Slot), gHw X τ G H locs → lv_has ls 2 [] → K (.inr G) → W p l e rm_X11_keepsAll s m args below meth c H locs 0 0 Q (F0 m 27 ls [])) : W p l e rm_X11_keepsAll s m args below meth c H locs 0 0 Q (F0 m 2 ls []) := by
  unfold b_X11_keepsAll_2 at hok
  refine lv_iload_n fx.1 fx.2.1 dX11_keepsAll_2 rfl (lv_at hl 1 rfl) ?_
  refine lv_sipush (v := 467) fx.1 fx.2.1 dX11_keepsAll_3 (by decide) ?_
  refine g_icmp_ge (tgt := 27) fx dX11_keepsAll_6 (by decide) hok (fun hok => ?_) (fun hok => ?_)
  · exact hx0  G _ _ _  hw (lv_sub hl [] rfl) (gOk_some hok)
  · refine lv_aload_n fx.1 fx.2.1 dX11_keepsAll_9 rfl (lv_at hl 0 rfl) ?_
    refine g_getr fx hw h0 lf_RX11_23 rfl dX11_keepsAll_10 hok (fun a1 h_a1 hok => ?_)
    refine lv_iload_n fx.1 fx.2.1 dX11_keepsAll_13 rfl (lv_at hl 1 rfl) ?_
    refine lv_aload_n fx.1 fx.2.1 dX11_keepsAll_14 rfl (lv_at hl 0 rfl) ?_
    refine g_getr fx hw h0 lf_RX11_13 rfl dX11_keepsAll_15 hok (fun a2 h_a2 hok => ?_)
    refine lv_iload_n fx.1 fx.2.1 dX11_keepsAll_18 rfl (lv_at hl 1 rfl) ?_
    refine g_iald fx hw h_a2 dX11_keepsAll_19 hok (fun hok => ?_)
    refine g_iast fx hw h_a1 dX11_keepsAll_20 hok (fun G3 H locs hw hok => ?_)
    obtain ⟨v4, e_v4, hok⟩ := gOk_let hok
    refine lv_iinc (v := v4) (lv' := [(1, .int v4), (0, .ref x0)]) fx.1 fx.2.1 dX11_keepsAll_21 hl (k := 1) rfl (by rw [e_v4]; rfl) (by decide) rfl (fun ls hl => ?_)
    refine lv_goto (tgt := 2) fx.1 fx.2.1 dX11_keepsAll_24 (by decide) ?_
    exact hc v4 G3 _ _ _  hw (lv_sub hl [1, 0] rfl) (gOk_some hok)
theorem w_l_X11_keepsAll_2 {X : gX} {τ : gτ} {p : Program} {l : Launch} {e : Env} {s : State} {m : MethodId} {args : Array Value} {below : List Frame} {meth : Method} {c : Code} (fx : gFx X p s m args meth c cX11_keepsAll 2 RX11) (n : Nat) (x0 : Nat) (h0 : gK τ x0 11) {Q : State → Prop} {K : ((gG)) → Prop} (hx0 : ∀ (G : gG) (H : Heap) (locs : List Loc) (ls : Array Slot), gHw X τ G H locs → lv_has ls 2 [] → K G → W p l e rm_X11_keepsAll s m args below meth c H locs 0 0 Q (F0 m 27 ls [])) : ∀ (k : Nat) (x1 : Int32) (G : gG) (H : Heap) (locs : List Loc) (ls : Array Slot), gHw X τ G H locs → lv_has ls 2 [(0, .ref x0), (1, .int x1)] → gOk (gIter (fun (q : Int32 × gG) => b_X11_keepsAll_2 τ n x0 q.1 q.2) k (x1, G)) K → W p l e rm_X11_keepsAll s m args below meth c H locs 0 0 Q (F0 m 2 ls []) := by
  intro k
  induction k with
  | zero =>
    intro x1 G H locs ls hw hl hok
    exact gOk_iter0 hok
  | succ k hc =>
    intro x1 G H locs ls hw hl hok
    exact w_b_X11_keepsAll_2 fx n x0 x1 h0 hw hl (gOk_iter hok) hc hx0
set_option maxHeartbeats 4000000 in
set_option maxRecDepth 100000 in
theorem c_X11_keepsAll (l : Launch) (X : gX) (τ : gτ) (n : Nat) (x0 : Nat) (G : gG) (h0 : gK τ x0 11) {G' : gG} (h : f_X11_keepsAll τ n x0 G = some G') : gM l X τ yX11_keepsAll cX11_keepsAll 2 none rm_X11_keepsAll [.ref x0] G none G' := by
  refine g_body (by decide +kernel) (Nat.le_of_ble_eq_true rfl) ?_
  intro p e s m args below meth c ls fx hr hw hl
  have fx : gFx X p s m args meth c cX11_keepsAll 2 RX11 := fx
  have hl : lv_has ls 2 [(0, .ref x0)] := hl
  have hok : gOk (f_X11_keepsAll τ n x0 G) (fun q => q = G') := ⟨_, h, rfl⟩
  unfold f_X11_keepsAll at hok
  show W p l e rm_X11_keepsAll s m args below meth c s.heap [] 0 0 (MQ below (gQ X τ none G') args s 0 0 (gFree X)) _
  refine lv_iconst (v := 0) fx.1 fx.2.1 dX11_keepsAll_0 (by decide) ?_
  refine lv_istore_n (lv' := [(1, .int (0 : Int32)), (0, .ref x0)]) fx.1 fx.2.1 dX11_keepsAll_1 rfl hl (by decide) rfl (fun ls hl => ?_)
  refine w_l_X11_keepsAll_2 fx n x0 h0 ?_ n (0 : Int32) G _ _ _  hw (lv_sub hl [1, 0] rfl) (gOk_bindK hok)
  intro G5 H locs ls hw hl hok
  have hok : gOk (ρ := gG) (some G5) _ := hok
  cases gOk_some hok
  exact g_vret fx hw hr dX11_keepsAll_27
theorem dX11_bringsBack_0 : decode cX11_bringsBack 0 = .ok (.iconst 0, 1) := by decide +kernel
theorem dX11_bringsBack_1 : decode cX11_bringsBack 1 = .ok (.istore_n 1, 1) := by decide +kernel
theorem dX11_bringsBack_2 : decode cX11_bringsBack 2 = .ok (.iload_n 1, 1) := by decide +kernel
theorem dX11_bringsBack_3 : decode cX11_bringsBack 3 = .ok (.sipush 467, 3) := by decide +kernel
theorem dX11_bringsBack_6 : decode cX11_bringsBack 6 = .ok (.if_icmp .ge 21, 3) := by decide +kernel
theorem dX11_bringsBack_9 : decode cX11_bringsBack 9 = .ok (.aload_n 0, 1) := by decide +kernel
theorem dX11_bringsBack_10 : decode cX11_bringsBack 10 = .ok (.getfield 13, 3) := by decide +kernel
theorem dX11_bringsBack_13 : decode cX11_bringsBack 13 = .ok (.iload_n 1, 1) := by decide +kernel
theorem dX11_bringsBack_14 : decode cX11_bringsBack 14 = .ok (.aload_n 0, 1) := by decide +kernel
theorem dX11_bringsBack_15 : decode cX11_bringsBack 15 = .ok (.getfield 23, 3) := by decide +kernel
theorem dX11_bringsBack_18 : decode cX11_bringsBack 18 = .ok (.iload_n 1, 1) := by decide +kernel
theorem dX11_bringsBack_19 : decode cX11_bringsBack 19 = .ok (.iaload, 1) := by decide +kernel
theorem dX11_bringsBack_20 : decode cX11_bringsBack 20 = .ok (.iastore, 1) := by decide +kernel
theorem dX11_bringsBack_21 : decode cX11_bringsBack 21 = .ok (.iinc 1 1, 3) := by decide +kernel
theorem dX11_bringsBack_24 : decode cX11_bringsBack 24 = .ok (.goto (-22), 3) := by decide +kernel
theorem dX11_bringsBack_27 : decode cX11_bringsBack 27 = .ok (.return_, 1) := by decide +kernel
def rm_X11_bringsBack : Room := { frames := 0, cells := 0, slots := 0, locals := 0 }
def b_X11_bringsBack_2 (τ : gτ) (n : Nat) (x0 : Nat) (x1 : Int32) (G : gG) : Option ((Int32 × gG) ⊕ ((gG))) :=
  if (467 : Int32) ≤ x1 then (some (.inr G))
  else ((gr G 11 1 x0).bind fun a1 =>
  (gr G 11 4 x0).bind fun a2 =>
  gchk (gIn x1 (gn τ a2)) <|
  gchk (gIn x1 (gn τ a1)) <| gLet (gse G a1 (Int32.toNatClampNeg x1) (ge G a2 (Int32.toNatClampNeg x1))) fun G3 =>
  gLet (x1 + 1) fun v4 =>
  some (.inl (v4, G3)))
def l_X11_bringsBack_2 (τ : gτ) (n : Nat) (x0 : Nat) (x1 : Int32) (G : gG) : Option ((gG)) :=
  gIter (fun (q : Int32 × gG) => b_X11_bringsBack_2 τ n x0 q.1 q.2) n (x1, G)
def f_X11_bringsBack (τ : gτ) (n : Nat) (x0 : Nat) (G : gG) : Option (gG) :=
  (l_X11_bringsBack_2 τ n x0 (0 : Int32) G).bind fun q => gLet q fun G5 => 
  some G5
set_option maxHeartbeats 4000000 in
set_option maxRecDepth 100000 in
theorem w_b_X11_bringsBack_2 {X : gX} {τ : gτ} {p : Program} {l : Launch} {e : Env} {s : State} {m : MethodId} {args : Array Value} {below : List Frame} {meth : Method} {c : Code} (fx : gFx X p s m args meth c cX11_bringsBack 2 RX11) (n : Nat) (x0 : Nat) (x1 : Int32) (h0 : gK τ x0 11) {Q : State → Prop} {K : ((Int32 × gG) ⊕ ((gG))) → Prop} {G : gG} {H : Heap} {locs : List Loc} {ls : Array Slot} (hw : gHw X τ G H locs) (hl : lv_has ls 2 [(0, .ref x0), (1, .int x1)]) (hok : gOk (b_X11_bringsBack_2 τ n x0 x1 G) K) (hc : ∀ (y1 : Int32) (G : gG) (H : Heap) (locs : List Loc) (ls : Array Slot), gHw X τ G H locs → lv_has ls 2 [(0, .ref x0), (1, .int y1)] → K (.inl (y1, G)) → W p l e rm_X11_bringsBack s m args below meth c H locs 0 0 Q (F0 m 2 ls [])) (hx0 : ∀ (G : gG) (H : Heap) (locs : List Loc) (ls : Array Slot), gHw X τ G H locs → lv_has ls 2 [] → K (.inr G) → W p l e rm_X11_bringsBack s m args below meth c H locs 0 0 Q (F0 m 27 ls [])) : W p l e rm_X11_bringsBack s m args below meth c H locs 0 0 Q (F0 m 2 ls []) := by
  unfold b_X11_bringsBack_2 at hok
  refine lv_iload_n fx.1 fx.2.1 dX11_bringsBack_2 rfl (lv_at hl 1 rfl) ?_
  refine lv_sipush (v := 467) fx.1 fx.2.1 dX11_bringsBack_3 (by decide) ?_
  refine g_icmp_ge (tgt := 27) fx dX11_bringsBack_6 (by decide) hok (fun hok => ?_) (fun hok => ?_)
  · exact hx0  G _ _ _  hw (lv_sub hl [] rfl) (gOk_some hok)
  · refine lv_aload_n fx.1 fx.2.1 dX11_bringsBack_9 rfl (lv_at hl 0 rfl) ?_
    refine g_getr fx hw h0 lf_RX11_13 rfl dX11_bringsBack_10 hok (fun a1 h_a1 hok => ?_)
    refine lv_iload_n fx.1 fx.2.1 dX11_bringsBack_13 rfl (lv_at hl 1 rfl) ?_
    refine lv_aload_n fx.1 fx.2.1 dX11_bringsBack_14 rfl (lv_at hl 0 rfl) ?_
    refine g_getr fx hw h0 lf_RX11_23 rfl dX11_bringsBack_15 hok (fun a2 h_a2 hok => ?_)
    refine lv_iload_n fx.1 fx.2.1 dX11_bringsBack_18 rfl (lv_at hl 1 rfl) ?_
    refine g_iald fx hw h_a2 dX11_bringsBack_19 hok (fun hok => ?_)
    refine g_iast fx hw h_a1 dX11_bringsBack_20 hok (fun G3 H locs hw hok => ?_)
    obtain ⟨v4, e_v4, hok⟩ := gOk_let hok
    refine lv_iinc (v := v4) (lv' := [(1, .int v4), (0, .ref x0)]) fx.1 fx.2.1 dX11_bringsBack_21 hl (k := 1) rfl (by rw [e_v4]; rfl) (by decide) rfl (fun ls hl => ?_)
    refine lv_goto (tgt := 2) fx.1 fx.2.1 dX11_bringsBack_24 (by decide) ?_
    exact hc v4 G3 _ _ _  hw (lv_sub hl [1, 0] rfl) (gOk_some hok)
theorem w_l_X11_bringsBack_2 {X : gX} {τ : gτ} {p : Program} {l : Launch} {e : Env} {s : State} {m : MethodId} {args : Array Value} {below : List Frame} {meth : Method} {c : Code} (fx : gFx X p s m args meth c cX11_bringsBack 2 RX11) (n : Nat) (x0 : Nat) (h0 : gK τ x0 11) {Q : State → Prop} {K : ((gG)) → Prop} (hx0 : ∀ (G : gG) (H : Heap) (locs : List Loc) (ls : Array Slot), gHw X τ G H locs → lv_has ls 2 [] → K G → W p l e rm_X11_bringsBack s m args below meth c H locs 0 0 Q (F0 m 27 ls [])) : ∀ (k : Nat) (x1 : Int32) (G : gG) (H : Heap) (locs : List Loc) (ls : Array Slot), gHw X τ G H locs → lv_has ls 2 [(0, .ref x0), (1, .int x1)] → gOk (gIter (fun (q : Int32 × gG) => b_X11_bringsBack_2 τ n x0 q.1 q.2) k (x1, G)) K → W p l e rm_X11_bringsBack s m args below meth c H locs 0 0 Q (F0 m 2 ls []) := by
  intro k
  induction k with
  | zero =>
    intro x1 G H locs ls hw hl hok
    exact gOk_iter0 hok
  | succ k hc =>
    intro x1 G H locs ls hw hl hok
    exact w_b_X11_bringsBack_2 fx n x0 x1 h0 hw hl (gOk_iter hok) hc hx0
set_option maxHeartbeats 4000000 in
set_option maxRecDepth 100000 in
theorem c_X11_bringsBack (l : Launch) (X : gX) (τ : gτ) (n : Nat) (x0 : Nat) (G : gG) (h0 : gK τ x0 11) {G' : gG} (h : f_X11_bringsBack τ n x0 G = some G') : gM l X τ yX11_bringsBack cX11_bringsBack 2 none rm_X11_bringsBack [.ref x0] G none G' := by
  refine g_body (by decide +kernel) (Nat.le_of_ble_eq_true rfl) ?_
  intro p e s m args below meth c ls fx hr hw hl
  have fx : gFx X p s m args meth c cX11_bringsBack 2 RX11 := fx
  have hl : lv_has ls 2 [(0, .ref x0)] := hl
  have hok : gOk (f_X11_bringsBack τ n x0 G) (fun q => q = G') := ⟨_, h, rfl⟩
  unfold f_X11_bringsBack at hok
  show W p l e rm_X11_bringsBack s m args below meth c s.heap [] 0 0 (MQ below (gQ X τ none G') args s 0 0 (gFree X)) _
  refine lv_iconst (v := 0) fx.1 fx.2.1 dX11_bringsBack_0 (by decide) ?_
  refine lv_istore_n (lv' := [(1, .int (0 : Int32)), (0, .ref x0)]) fx.1 fx.2.1 dX11_bringsBack_1 rfl hl (by decide) rfl (fun ls hl => ?_)
  refine w_l_X11_bringsBack_2 fx n x0 h0 ?_ n (0 : Int32) G _ _ _  hw (lv_sub hl [1, 0] rfl) (gOk_bindK hok)
  intro G5 H locs ls hw hl hok
  have hok : gOk (ρ := gG) (some G5) _ := hok
  cases gOk_some hok
  exact g_vret fx hw hr dX11_bringsBack_27
theorem dX11_holds_0 : decode cX11_holds 0 = .ok (.aload_n 0, 1) := by decide +kernel
theorem dX11_holds_1 : decode cX11_holds 1 = .ok (.iconst 0, 1) := by decide +kernel
theorem dX11_holds_2 : decode cX11_holds 2 = .ok (.putfield 3, 3) := by decide +kernel
theorem dX11_holds_5 : decode cX11_holds 5 = .ok (.aload_n 0, 1) := by decide +kernel
theorem dX11_holds_6 : decode cX11_holds 6 = .ok (.aload_n 0, 1) := by decide +kernel
theorem dX11_holds_7 : decode cX11_holds 7 = .ok (.iload_n 1, 1) := by decide +kernel
theorem dX11_holds_8 : decode cX11_holds 8 = .ok (.invokevirtual 321, 3) := by decide +kernel
theorem dX11_holds_11 : decode cX11_holds 11 = .ok (.iconst 1, 1) := by decide +kernel
theorem dX11_holds_12 : decode cX11_holds 12 = .ok (.invokevirtual 263, 3) := by decide +kernel
theorem dX11_holds_15 : decode cX11_holds 15 = .ok (.ifCond .eq 5, 3) := by decide +kernel
theorem dX11_holds_18 : decode cX11_holds 18 = .ok (.iconst 0, 1) := by decide +kernel
theorem dX11_holds_19 : decode cX11_holds 19 = .ok (.ireturn, 1) := by decide +kernel
theorem dX11_holds_20 : decode cX11_holds 20 = .ok (.aload_n 0, 1) := by decide +kernel
theorem dX11_holds_21 : decode cX11_holds 21 = .ok (.invokevirtual 408, 3) := by decide +kernel
theorem dX11_holds_24 : decode cX11_holds 24 = .ok (.iconst 0, 1) := by decide +kernel
theorem dX11_holds_25 : decode cX11_holds 25 = .ok (.istore_n 3, 1) := by decide +kernel
theorem dX11_holds_26 : decode cX11_holds 26 = .ok (.iconst (-1), 1) := by decide +kernel
theorem dX11_holds_27 : decode cX11_holds 27 = .ok (.istore 4, 2) := by decide +kernel
theorem dX11_holds_29 : decode cX11_holds 29 = .ok (.iconst 0, 1) := by decide +kernel
theorem dX11_holds_30 : decode cX11_holds 30 = .ok (.istore 5, 2) := by decide +kernel
theorem dX11_holds_32 : decode cX11_holds 32 = .ok (.iload 5, 2) := by decide +kernel
theorem dX11_holds_34 : decode cX11_holds 34 = .ok (.bipush 40, 2) := by decide +kernel
theorem dX11_holds_36 : decode cX11_holds 36 = .ok (.if_icmp .gt 77, 3) := by decide +kernel
theorem dX11_holds_39 : decode cX11_holds 39 = .ok (.aload_n 0, 1) := by decide +kernel
theorem dX11_holds_40 : decode cX11_holds 40 = .ok (.iload_n 1, 1) := by decide +kernel
theorem dX11_holds_41 : decode cX11_holds 41 = .ok (.invokevirtual 146, 3) := by decide +kernel
theorem dX11_holds_44 : decode cX11_holds 44 = .ok (.ifCond .eq 69, 3) := by decide +kernel
theorem dX11_holds_47 : decode cX11_holds 47 = .ok (.iload 4, 2) := by decide +kernel
theorem dX11_holds_49 : decode cX11_holds 49 = .ok (.ifCond .ge 25, 3) := by decide +kernel
theorem dX11_holds_52 : decode cX11_holds 52 = .ok (.aload_n 0, 1) := by decide +kernel
theorem dX11_holds_53 : decode cX11_holds 53 = .ok (.iload_n 1, 1) := by decide +kernel
theorem dX11_holds_54 : decode cX11_holds 54 = .ok (.invokevirtual 303, 3) := by decide +kernel
theorem dX11_holds_57 : decode cX11_holds 57 = .ok (.iconst 2, 1) := by decide +kernel
theorem dX11_holds_58 : decode cX11_holds 58 = .ok (.aload_n 0, 1) := by decide +kernel
theorem dX11_holds_59 : decode cX11_holds 59 = .ok (.iload_n 1, 1) := by decide +kernel
theorem dX11_holds_60 : decode cX11_holds 60 = .ok (.bipush 9, 2) := by decide +kernel
theorem dX11_holds_62 : decode cX11_holds 62 = .ok (.invokevirtual 62, 3) := by decide +kernel
theorem dX11_holds_65 : decode cX11_holds 65 = .ok (.imul, 1) := by decide +kernel
theorem dX11_holds_66 : decode cX11_holds 66 = .ok (.if_icmp .ge 8, 3) := by decide +kernel
theorem dX11_holds_69 : decode cX11_holds 69 = .ok (.iload 5, 2) := by decide +kernel
theorem dX11_holds_71 : decode cX11_holds 71 = .ok (.goto 5, 3) := by decide +kernel
theorem dX11_holds_74 : decode cX11_holds 74 = .ok (.iload 4, 2) := by decide +kernel
theorem dX11_holds_76 : decode cX11_holds 76 = .ok (.istore 4, 2) := by decide +kernel
theorem dX11_holds_78 : decode cX11_holds 78 = .ok (.iload 5, 2) := by decide +kernel
theorem dX11_holds_80 : decode cX11_holds 80 = .ok (.istore_n 3, 1) := by decide +kernel
theorem dX11_holds_81 : decode cX11_holds 81 = .ok (.aload_n 0, 1) := by decide +kernel
theorem dX11_holds_82 : decode cX11_holds 82 = .ok (.iload_n 1, 1) := by decide +kernel
theorem dX11_holds_83 : decode cX11_holds 83 = .ok (.iconst 0, 1) := by decide +kernel
theorem dX11_holds_84 : decode cX11_holds 84 = .ok (.invokevirtual 368, 3) := by decide +kernel
theorem dX11_holds_87 : decode cX11_holds 87 = .ok (.aload_n 0, 1) := by decide +kernel
theorem dX11_holds_88 : decode cX11_holds 88 = .ok (.getfield 13, 3) := by decide +kernel
theorem dX11_holds_91 : decode cX11_holds 91 = .ok (.iconst 5, 1) := by decide +kernel
theorem dX11_holds_92 : decode cX11_holds 92 = .ok (.sipush 9999, 3) := by decide +kernel
theorem dX11_holds_95 : decode cX11_holds 95 = .ok (.aload_n 0, 1) := by decide +kernel
theorem dX11_holds_96 : decode cX11_holds 96 = .ok (.getfield 13, 3) := by decide +kernel
theorem dX11_holds_99 : decode cX11_holds 99 = .ok (.iconst 5, 1) := by decide +kernel
theorem dX11_holds_100 : decode cX11_holds 100 = .ok (.iaload, 1) := by decide +kernel
theorem dX11_holds_101 : decode cX11_holds 101 = .ok (.iconst 1, 1) := by decide +kernel
theorem dX11_holds_102 : decode cX11_holds 102 = .ok (.iadd, 1) := by decide +kernel
theorem dX11_holds_103 : decode cX11_holds 103 = .ok (.invokestatic 135, 3) := by decide +kernel
theorem dX11_holds_106 : decode cX11_holds 106 = .ok (.iastore, 1) := by decide +kernel
theorem dX11_holds_107 : decode cX11_holds 107 = .ok (.iinc 5 1, 3) := by decide +kernel
theorem dX11_holds_110 : decode cX11_holds 110 = .ok (.goto (-78), 3) := by decide +kernel
theorem dX11_holds_113 : decode cX11_holds 113 = .ok (.aload_n 0, 1) := by decide +kernel
theorem dX11_holds_114 : decode cX11_holds 114 = .ok (.invokevirtual 411, 3) := by decide +kernel
theorem dX11_holds_117 : decode cX11_holds 117 = .ok (.iload_n 2, 1) := by decide +kernel
theorem dX11_holds_118 : decode cX11_holds 118 = .ok (.ifCond .eq 8, 3) := by decide +kernel
theorem dX11_holds_121 : decode cX11_holds 121 = .ok (.iload 4, 2) := by decide +kernel
theorem dX11_holds_123 : decode cX11_holds 123 = .ok (.goto 4, 3) := by decide +kernel
theorem dX11_holds_126 : decode cX11_holds 126 = .ok (.iload_n 3, 1) := by decide +kernel
theorem dX11_holds_127 : decode cX11_holds 127 = .ok (.ireturn, 1) := by decide +kernel
theorem lv_RX11_408 : gLv RX11 408 RX11 yX11_keepsAll cX11_keepsAll 2 none 0 := gLv_of (wA_t (wt9 (List.mem_of_getElem? (i := 23) (by decide +kernel))) (by decide +kernel)) (wA_t (wt9 (List.mem_of_getElem? (i := 25) (by decide +kernel))) (by decide +kernel)) (wA_of (List.mem_append_left _ (List.mem_map.mpr ⟨(⟨"YearRopeModel", "keepsAll", "()V"⟩, 20), wp8 (List.mem_of_getElem? (i := 4) (by decide +kernel)), rfl⟩)) (by decide +kernel)) (wA_t (wt1 (List.mem_of_getElem? (i := 12) (by decide +kernel))) (by decide +kernel)) (wA_t (wt9 (List.mem_of_getElem? (i := 26) (by decide +kernel))) (by decide +kernel)) ⟨rfl, by decide +kernel, by decide +kernel, by decide +kernel⟩
theorem lv_RX11_411 : gLv RX11 411 RX11 yX11_bringsBack cX11_bringsBack 2 none 0 := gLv_of (wA_t (wt9 (List.mem_of_getElem? (i := 27) (by decide +kernel))) (by decide +kernel)) (wA_t (wt9 (List.mem_of_getElem? (i := 29) (by decide +kernel))) (by decide +kernel)) (wA_of (List.mem_append_left _ (List.mem_map.mpr ⟨(⟨"YearRopeModel", "bringsBack", "()V"⟩, 20), wp8 (List.mem_of_getElem? (i := 5) (by decide +kernel)), rfl⟩)) (by decide +kernel)) (wA_t (wt1 (List.mem_of_getElem? (i := 12) (by decide +kernel))) (by decide +kernel)) (wA_t (wt9 (List.mem_of_getElem? (i := 30) (by decide +kernel))) (by decide +kernel)) ⟨rfl, by decide +kernel, by decide +kernel, by decide +kernel⟩
def rm_X11_holds : Room := { frames := 9, cells := 0, slots := 0, locals := 207 }
def k_X11_holds_76 (τ : gτ) (n : Nat) (x0 : Nat) (x1 : Int32) (x2 : Int32) (x5 : Int32) (s0 : Int32) (G : gG) : Option ((Int32 × Int32 × Int32 × gG) ⊕ ((Int32 × Int32 × gG))) :=
  (f_X11_goesOn τ n x0 x1 (0 : Int32) G).bind fun G7 =>
  (gr G7 11 1 x0).bind fun a8 =>
  (gr G7 11 1 x0).bind fun a9 =>
  gchk (gIn (5 : Int32) (gn τ a9)) <|
  gchk (gIn (5 : Int32) (gn τ a8)) <| gLet (gse G7 a8 (Int32.toNatClampNeg (5 : Int32)) (gmin (9999 : Int32) ((ge G7 a9 (Int32.toNatClampNeg (5 : Int32))) + (1 : Int32)))) fun G10 =>
  gLet (x5 + 1) fun v11 =>
  some (.inl (x5, s0, v11, G10))
def k_X11_holds_74 (τ : gτ) (n : Nat) (x0 : Nat) (x1 : Int32) (x2 : Int32) (x4 : Int32) (x5 : Int32)  (G : gG) : Option ((Int32 × Int32 × Int32 × gG) ⊕ ((Int32 × Int32 × gG))) :=
  k_X11_holds_76 τ n x0 x1 x2 x5 x4 G
def b_X11_holds_32 (τ : gτ) (n : Nat) (x0 : Nat) (x1 : Int32) (x2 : Int32) (x3 : Int32) (x4 : Int32) (x5 : Int32) (G : gG) : Option ((Int32 × Int32 × Int32 × gG) ⊕ ((Int32 × Int32 × gG))) :=
  if (40 : Int32) < x5 then (some (.inr (x3, x4, G)))
  else ((f_X11_isWhole τ x0 x1 G).bind fun v6 =>
  if v6 = 0 then (some (.inr (x3, x4, G)))
  else (if 0 ≤ x4 then (k_X11_holds_74 τ n x0 x1 x2 x4 x5  G)
  else (gBind2 (f_X11_bearsOf τ n x0 x1 G) fun v12 G13 =>
  (f_X11_of τ x0 x1 (9 : Int32) G13).bind fun v14 =>
  if ((2 : Int32) * v14) ≤ v12 then (k_X11_holds_74 τ n x0 x1 x2 x4 x5  G13)
  else (k_X11_holds_76 τ n x0 x1 x2 x5 x5 G13))))
def l_X11_holds_32 (τ : gτ) (n : Nat) (x0 : Nat) (x1 : Int32) (x2 : Int32) (x3 : Int32) (x4 : Int32) (x5 : Int32) (G : gG) : Option ((Int32 × Int32 × gG)) :=
  gIter (fun (q : Int32 × Int32 × Int32 × gG) => b_X11_holds_32 τ n x0 x1 x2 q.1 q.2.1 q.2.2.1 q.2.2.2) n (x3, x4, x5, G)
def k_X11_holds_113 (τ : gτ) (n : Nat) (x0 : Nat) (x2 : Int32) (x3 : Int32) (x4 : Int32)  (G : gG) : Option (Int32 × gG) :=
  (f_X11_bringsBack τ n x0 G).bind fun G18 =>
  if x2 = 0 then (some (x3, G18))
  else (some (x4, G18))
def f_X11_holds (τ : gτ) (n : Nat) (x0 : Nat) (x1 : Int32) (x2 : Int32) (G : gG) : Option (Int32 × gG) :=
  gLet (gsi G 11 0 x0 (0 : Int32)) fun G1 =>
  (f_X11_noRope τ x0 x1 G1).bind fun v2 =>
  gBind2 (f_X11_throwsIf x0 v2 (1 : Int32) G1) fun v3 G4 =>
  if v3 = 0 then ((f_X11_keepsAll τ n x0 G4).bind fun G5 =>
  (l_X11_holds_32 τ n x0 x1 x2 (0 : Int32) (-1 : Int32) (0 : Int32) G5).bind fun q => gLet q.1 fun z15 => gLet q.2.1 fun z16 => gLet q.2.2 fun G17 => 
  k_X11_holds_113 τ n x0 x2 z15 z16  G17)
  else (some (0, G4))
set_option maxHeartbeats 4000000 in
set_option maxRecDepth 100000 in
theorem w_X11_holds_76 {X : gX} {τ : gτ} {p : Program} {l : Launch} {e : Env} {s : State} {m : MethodId} {args : Array Value} {below : List Frame} {meth : Method} {c : Code} (fx : gFx X p s m args meth c cX11_holds 6 RX11) (n : Nat) (x0 : Nat) (x1 : Int32) (x2 : Int32) (x5 : Int32) (s0 : Int32) (h0 : gK τ x0 11)  {Q : State → Prop} {K : ((Int32 × Int32 × Int32 × gG) ⊕ ((Int32 × Int32 × gG))) → Prop} {G : gG} {H : Heap} {locs : List Loc} {ls : Array Slot} (hw : gHw X τ G H locs) (hl : lv_has ls 6 [(0, .ref x0), (1, .int x1), (2, .int x2), (5, .int x5)]) (hok : gOk (k_X11_holds_76 τ n x0 x1 x2 x5 s0 G) K) (hc : ∀ (y3 : Int32) (y4 : Int32) (y5 : Int32) (G : gG) (H : Heap) (locs : List Loc) (ls : Array Slot), gHw X τ G H locs → lv_has ls 6 [(0, .ref x0), (1, .int x1), (2, .int x2), (3, .int y3), (4, .int y4), (5, .int y5)] → K (.inl (y3, y4, y5, G)) → W p l e rm_X11_holds s m args below meth c H locs 0 0 Q (F0 m 32 ls [])) (hx0 : ∀ (y3 : Int32) (y4 : Int32) (G : gG) (H : Heap) (locs : List Loc) (ls : Array Slot), gHw X τ G H locs → lv_has ls 6 [(0, .ref x0), (2, .int x2), (3, .int y3), (4, .int y4)] → K (.inr (y3, y4, G)) → W p l e rm_X11_holds s m args below meth c H locs 0 0 Q (F0 m 113 ls [])) : W p l e rm_X11_holds s m args below meth c H locs 0 0 Q (F0 m 76 ls [.int s0]) := by
  unfold k_X11_holds_76 at hok
  refine lv_istore (lv' := [(4, .int s0), (0, .ref x0), (1, .int x1), (2, .int x2), (5, .int x5)]) fx.1 fx.2.1 dX11_holds_76 hl (by decide) rfl (fun ls hl => ?_)
  refine lv_iload fx.1 fx.2.1 dX11_holds_78 (lv_at hl 4 rfl) ?_
  refine lv_istore_n (lv' := [(3, .int x5), (4, .int s0), (0, .ref x0), (1, .int x1), (2, .int x2), (5, .int x5)]) fx.1 fx.2.1 dX11_holds_80 rfl hl (by decide) rfl (fun ls hl => ?_)
  refine lv_aload_n fx.1 fx.2.1 dX11_holds_81 rfl (lv_at hl 2 rfl) ?_
  refine lv_iload_n fx.1 fx.2.1 dX11_holds_82 rfl (lv_at hl 3 rfl) ?_
  refine lv_iconst (v := 0) fx.1 fx.2.1 dX11_holds_83 (by decide) ?_
  obtain ⟨G7, hf, hok⟩ := gOk_bind hok
  refine g_callV0 (κ := 11) fx hw (c_X11_goesOn l X τ n x0 x1 (0 : Int32) G h0 hf) lv_RX11_368 ⟨rfl, rfl⟩ rfl rfl h0 rfl hl.1 rfl ⟨Nat.le_of_ble_eq_true rfl, Nat.le_of_ble_eq_true rfl⟩ (Nat.le_of_ble_eq_true rfl) ⟨Nat.le_of_ble_eq_true rfl, Nat.le_of_ble_eq_true rfl⟩ dX11_holds_84 (fun H locs hw => ?_)
  refine lv_aload_n fx.1 fx.2.1 dX11_holds_87 rfl (lv_at hl 2 rfl) ?_
  refine g_getr fx hw h0 lf_RX11_13 rfl dX11_holds_88 hok (fun a8 h_a8 hok => ?_)
  refine lv_iconst (v := 5) fx.1 fx.2.1 dX11_holds_91 (by decide) ?_
  refine lv_sipush (v := 9999) fx.1 fx.2.1 dX11_holds_92 (by decide) ?_
  refine lv_aload_n fx.1 fx.2.1 dX11_holds_95 rfl (lv_at hl 2 rfl) ?_
  refine g_getr fx hw h0 lf_RX11_13 rfl dX11_holds_96 hok (fun a9 h_a9 hok => ?_)
  refine lv_iconst (v := 5) fx.1 fx.2.1 dX11_holds_99 (by decide) ?_
  refine g_iald fx hw h_a9 dX11_holds_100 hok (fun hok => ?_)
  refine lv_iconst (v := 1) fx.1 fx.2.1 dX11_holds_101 (by decide) ?_
  refine lv_iadd fx.1 fx.2.1 dX11_holds_102 ?_
  refine g_mmin fx hl.1 lm_RX11_135 lmst_min lm_init lmco_min ⟨Nat.le_of_ble_eq_true rfl, Nat.le_of_ble_eq_true rfl, Nat.le_of_ble_eq_true rfl, Nat.le_of_ble_eq_true rfl⟩ dX11_holds_103 ?_
  refine g_iast fx hw h_a8 dX11_holds_106 hok (fun G10 H locs hw hok => ?_)
  obtain ⟨v11, e_v11, hok⟩ := gOk_let hok
  refine lv_iinc (v := v11) (lv' := [(5, .int v11), (3, .int x5), (4, .int s0), (0, .ref x0), (1, .int x1), (2, .int x2)]) fx.1 fx.2.1 dX11_holds_107 hl (k := 5) rfl (by rw [e_v11]; rfl) (by decide) rfl (fun ls hl => ?_)
  refine lv_goto (tgt := 32) fx.1 fx.2.1 dX11_holds_110 (by decide) ?_
  exact hc x5 s0 v11 G10 _ _ _  hw (lv_sub hl [3, 4, 5, 1, 2, 0] rfl) (gOk_some hok)
set_option maxHeartbeats 4000000 in
set_option maxRecDepth 100000 in
theorem w_X11_holds_74 {X : gX} {τ : gτ} {p : Program} {l : Launch} {e : Env} {s : State} {m : MethodId} {args : Array Value} {below : List Frame} {meth : Method} {c : Code} (fx : gFx X p s m args meth c cX11_holds 6 RX11) (n : Nat) (x0 : Nat) (x1 : Int32) (x2 : Int32) (x4 : Int32) (x5 : Int32)  (h0 : gK τ x0 11)  {Q : State → Prop} {K : ((Int32 × Int32 × Int32 × gG) ⊕ ((Int32 × Int32 × gG))) → Prop} {G : gG} {H : Heap} {locs : List Loc} {ls : Array Slot} (hw : gHw X τ G H locs) (hl : lv_has ls 6 [(0, .ref x0), (1, .int x1), (2, .int x2), (4, .int x4), (5, .int x5)]) (hok : gOk (k_X11_holds_74 τ n x0 x1 x2 x4 x5  G) K) (hc : ∀ (y3 : Int32) (y4 : Int32) (y5 : Int32) (G : gG) (H : Heap) (locs : List Loc) (ls : Array Slot), gHw X τ G H locs → lv_has ls 6 [(0, .ref x0), (1, .int x1), (2, .int x2), (3, .int y3), (4, .int y4), (5, .int y5)] → K (.inl (y3, y4, y5, G)) → W p l e rm_X11_holds s m args below meth c H locs 0 0 Q (F0 m 32 ls [])) (hx0 : ∀ (y3 : Int32) (y4 : Int32) (G : gG) (H : Heap) (locs : List Loc) (ls : Array Slot), gHw X τ G H locs → lv_has ls 6 [(0, .ref x0), (2, .int x2), (3, .int y3), (4, .int y4)] → K (.inr (y3, y4, G)) → W p l e rm_X11_holds s m args below meth c H locs 0 0 Q (F0 m 113 ls [])) : W p l e rm_X11_holds s m args below meth c H locs 0 0 Q (F0 m 74 ls []) := by
  unfold k_X11_holds_74 at hok
  refine lv_iload fx.1 fx.2.1 dX11_holds_74 (lv_at hl 3 rfl) ?_
  exact w_X11_holds_76 fx n x0 x1 x2 x5 x4 h0  hw (lv_sub hl [0, 1, 2, 4] rfl) hok hc hx0
set_option maxHeartbeats 4000000 in
set_option maxRecDepth 100000 in
theorem w_b_X11_holds_32 {X : gX} {τ : gτ} {p : Program} {l : Launch} {e : Env} {s : State} {m : MethodId} {args : Array Value} {below : List Frame} {meth : Method} {c : Code} (fx : gFx X p s m args meth c cX11_holds 6 RX11) (n : Nat) (x0 : Nat) (x1 : Int32) (x2 : Int32) (x3 : Int32) (x4 : Int32) (x5 : Int32) (h0 : gK τ x0 11) {Q : State → Prop} {K : ((Int32 × Int32 × Int32 × gG) ⊕ ((Int32 × Int32 × gG))) → Prop} {G : gG} {H : Heap} {locs : List Loc} {ls : Array Slot} (hw : gHw X τ G H locs) (hl : lv_has ls 6 [(0, .ref x0), (1, .int x1), (2, .int x2), (3, .int x3), (4, .int x4), (5, .int x5)]) (hok : gOk (b_X11_holds_32 τ n x0 x1 x2 x3 x4 x5 G) K) (hc : ∀ (y3 : Int32) (y4 : Int32) (y5 : Int32) (G : gG) (H : Heap) (locs : List Loc) (ls : Array Slot), gHw X τ G H locs → lv_has ls 6 [(0, .ref x0), (1, .int x1), (2, .int x2), (3, .int y3), (4, .int y4), (5, .int y5)] → K (.inl (y3, y4, y5, G)) → W p l e rm_X11_holds s m args below meth c H locs 0 0 Q (F0 m 32 ls [])) (hx0 : ∀ (y3 : Int32) (y4 : Int32) (G : gG) (H : Heap) (locs : List Loc) (ls : Array Slot), gHw X τ G H locs → lv_has ls 6 [(0, .ref x0), (2, .int x2), (3, .int y3), (4, .int y4)] → K (.inr (y3, y4, G)) → W p l e rm_X11_holds s m args below meth c H locs 0 0 Q (F0 m 113 ls [])) : W p l e rm_X11_holds s m args below meth c H locs 0 0 Q (F0 m 32 ls []) := by
  unfold b_X11_holds_32 at hok
  refine lv_iload fx.1 fx.2.1 dX11_holds_32 (lv_at hl 5 rfl) ?_
  refine lv_bipush (v := 40) fx.1 fx.2.1 dX11_holds_34 (by decide) ?_
  refine g_icmp_gt (tgt := 113) fx dX11_holds_36 (by decide) hok (fun hok => ?_) (fun hok => ?_)
  · exact hx0 x3 x4 G _ _ _  hw (lv_sub hl [0, 2, 3, 4] rfl) (gOk_some hok)
  · refine lv_aload_n fx.1 fx.2.1 dX11_holds_39 rfl (lv_at hl 0 rfl) ?_
    refine lv_iload_n fx.1 fx.2.1 dX11_holds_40 rfl (lv_at hl 1 rfl) ?_
    obtain ⟨v6, hf, hok⟩ := gOk_bind hok
    refine g_callV0 (κ := 11) fx hw (c_X11_isWhole l X τ x0 x1 G h0 hf) lv_RX11_146 ⟨rfl, rfl⟩ rfl rfl h0 rfl hl.1 rfl ⟨Nat.le_of_ble_eq_true rfl, Nat.le_of_ble_eq_true rfl⟩ (Nat.le_of_ble_eq_true rfl) ⟨Nat.le_of_ble_eq_true rfl, Nat.le_of_ble_eq_true rfl⟩ dX11_holds_41 (fun H locs hw => ?_)
    refine g_if_eq (tgt := 113) fx dX11_holds_44 (by decide) hok (fun hok => ?_) (fun hok => ?_)
    · exact hx0 x3 x4 G _ _ _  hw (lv_sub hl [0, 2, 3, 4] rfl) (gOk_some hok)
    · refine lv_iload fx.1 fx.2.1 dX11_holds_47 (lv_at hl 4 rfl) ?_
      refine g_if_ge (tgt := 74) fx dX11_holds_49 (by decide) hok (fun hok => ?_) (fun hok => ?_)
      · exact w_X11_holds_74 fx n x0 x1 x2 x4 x5  h0  hw (lv_sub hl [0, 1, 2, 4, 5] rfl) hok hc hx0
      · refine lv_aload_n fx.1 fx.2.1 dX11_holds_52 rfl (lv_at hl 0 rfl) ?_
        refine lv_iload_n fx.1 fx.2.1 dX11_holds_53 rfl (lv_at hl 1 rfl) ?_
        obtain ⟨v12, G13, hf, hok⟩ := gOk_bind2 hok
        refine g_callV0 (κ := 11) fx hw (c_X11_bearsOf l X τ n x0 x1 G h0 hf) lv_RX11_303 ⟨rfl, rfl⟩ rfl rfl h0 rfl hl.1 rfl ⟨Nat.le_of_ble_eq_true rfl, Nat.le_of_ble_eq_true rfl⟩ (Nat.le_of_ble_eq_true rfl) ⟨Nat.le_of_ble_eq_true rfl, Nat.le_of_ble_eq_true rfl⟩ dX11_holds_54 (fun H locs hw => ?_)
        refine lv_iconst (v := 2) fx.1 fx.2.1 dX11_holds_57 (by decide) ?_
        refine lv_aload_n fx.1 fx.2.1 dX11_holds_58 rfl (lv_at hl 0 rfl) ?_
        refine lv_iload_n fx.1 fx.2.1 dX11_holds_59 rfl (lv_at hl 1 rfl) ?_
        refine lv_bipush (v := 9) fx.1 fx.2.1 dX11_holds_60 (by decide) ?_
        obtain ⟨v14, hf, hok⟩ := gOk_bind hok
        refine g_callV0 (κ := 11) fx hw (c_X11_of l X τ x0 x1 (9 : Int32) G13 h0 hf) lv_RX11_62 ⟨rfl, rfl⟩ rfl rfl h0 rfl hl.1 rfl ⟨Nat.le_of_ble_eq_true rfl, Nat.le_of_ble_eq_true rfl⟩ (Nat.le_of_ble_eq_true rfl) ⟨Nat.le_of_ble_eq_true rfl, Nat.le_of_ble_eq_true rfl⟩ dX11_holds_62 (fun H locs hw => ?_)
        refine lv_imul fx.1 fx.2.1 dX11_holds_65 ?_
        refine g_icmp_ge (tgt := 74) fx dX11_holds_66 (by decide) hok (fun hok => ?_) (fun hok => ?_)
        · exact w_X11_holds_74 fx n x0 x1 x2 x4 x5  h0  hw (lv_sub hl [0, 1, 2, 4, 5] rfl) hok hc hx0
        · refine lv_iload fx.1 fx.2.1 dX11_holds_69 (lv_at hl 5 rfl) ?_
          refine lv_goto (tgt := 76) fx.1 fx.2.1 dX11_holds_71 (by decide) ?_
          exact w_X11_holds_76 fx n x0 x1 x2 x5 x5 h0  hw (lv_sub hl [0, 1, 2, 5] rfl) hok hc hx0
theorem w_l_X11_holds_32 {X : gX} {τ : gτ} {p : Program} {l : Launch} {e : Env} {s : State} {m : MethodId} {args : Array Value} {below : List Frame} {meth : Method} {c : Code} (fx : gFx X p s m args meth c cX11_holds 6 RX11) (n : Nat) (x0 : Nat) (x1 : Int32) (x2 : Int32) (h0 : gK τ x0 11) {Q : State → Prop} {K : ((Int32 × Int32 × gG)) → Prop} (hx0 : ∀ (y3 : Int32) (y4 : Int32) (G : gG) (H : Heap) (locs : List Loc) (ls : Array Slot), gHw X τ G H locs → lv_has ls 6 [(0, .ref x0), (2, .int x2), (3, .int y3), (4, .int y4)] → K (y3, y4, G) → W p l e rm_X11_holds s m args below meth c H locs 0 0 Q (F0 m 113 ls [])) : ∀ (k : Nat) (x3 : Int32) (x4 : Int32) (x5 : Int32) (G : gG) (H : Heap) (locs : List Loc) (ls : Array Slot), gHw X τ G H locs → lv_has ls 6 [(0, .ref x0), (1, .int x1), (2, .int x2), (3, .int x3), (4, .int x4), (5, .int x5)] → gOk (gIter (fun (q : Int32 × Int32 × Int32 × gG) => b_X11_holds_32 τ n x0 x1 x2 q.1 q.2.1 q.2.2.1 q.2.2.2) k (x3, x4, x5, G)) K → W p l e rm_X11_holds s m args below meth c H locs 0 0 Q (F0 m 32 ls []) := by
  intro k
  induction k with
  | zero =>
    intro x3 x4 x5 G H locs ls hw hl hok
    exact gOk_iter0 hok
  | succ k hc =>
    intro x3 x4 x5 G H locs ls hw hl hok
    exact w_b_X11_holds_32 fx n x0 x1 x2 x3 x4 x5 h0 hw hl (gOk_iter hok) hc hx0
set_option maxHeartbeats 4000000 in
set_option maxRecDepth 100000 in
theorem w_X11_holds_113 {X : gX} {τ : gτ} {p : Program} {l : Launch} {e : Env} {s : State} {m : MethodId} {args : Array Value} {below : List Frame} {meth : Method} {c : Code} (fx : gFx X p s m args meth c cX11_holds 6 RX11) (n : Nat) (x0 : Nat) (x2 : Int32) (x3 : Int32) (x4 : Int32)  (h0 : gK τ x0 11)  (hr : meth.sig.returnType = (some .int)) {r : Int32} {G' : gG} {G : gG} {H : Heap} {locs : List Loc} {ls : Array Slot} (hw : gHw X τ G H locs) (hl : lv_has ls 6 [(0, .ref x0), (2, .int x2), (3, .int x3), (4, .int x4)]) (hok : gOk (k_X11_holds_113 τ n x0 x2 x3 x4  G) (fun q => q = (r, G')))  : W p l e rm_X11_holds s m args below meth c H locs 0 0 (MQ below (gQ X τ (some (.int r)) G') args s 0 0 (gFree X)) (F0 m 113 ls []) := by
  unfold k_X11_holds_113 at hok
  refine lv_aload_n fx.1 fx.2.1 dX11_holds_113 rfl (lv_at hl 0 rfl) ?_
  obtain ⟨G18, hf, hok⟩ := gOk_bind hok
  refine g_callV0 (κ := 11) fx hw (c_X11_bringsBack l X τ n x0 G h0 hf) lv_RX11_411 ⟨rfl, rfl⟩ rfl rfl h0 rfl hl.1 rfl ⟨Nat.le_of_ble_eq_true rfl, Nat.le_of_ble_eq_true rfl⟩ (Nat.le_of_ble_eq_true rfl) ⟨Nat.le_of_ble_eq_true rfl, Nat.le_of_ble_eq_true rfl⟩ dX11_holds_114 (fun H locs hw => ?_)
  refine lv_iload_n fx.1 fx.2.1 dX11_holds_117 rfl (lv_at hl 1 rfl) ?_
  refine g_if_eq (tgt := 126) fx dX11_holds_118 (by decide) hok (fun hok => ?_) (fun hok => ?_)
  · refine lv_iload_n fx.1 fx.2.1 dX11_holds_126 rfl (lv_at hl 2 rfl) ?_
    cases gOk_some hok
    exact g_iret fx hw hr dX11_holds_127
  · refine lv_iload fx.1 fx.2.1 dX11_holds_121 (lv_at hl 3 rfl) ?_
    refine lv_goto (tgt := 127) fx.1 fx.2.1 dX11_holds_123 (by decide) ?_
    cases gOk_some hok
    exact g_iret fx hw hr dX11_holds_127
set_option maxHeartbeats 4000000 in
set_option maxRecDepth 100000 in
theorem c_X11_holds (l : Launch) (X : gX) (τ : gτ) (n : Nat) (x0 : Nat) (x1 : Int32) (x2 : Int32) (G : gG) (h0 : gK τ x0 11) {r : Int32} {G' : gG} (h : f_X11_holds τ n x0 x1 x2 G = some (r, G')) : gM l X τ yX11_holds cX11_holds 6 (some .int) rm_X11_holds [.ref x0, .int x1, .int x2] G (some (.int r)) G' := by
  refine g_body (by decide +kernel) (Nat.le_of_ble_eq_true rfl) ?_
  intro p e s m args below meth c ls fx hr hw hl
  have fx : gFx X p s m args meth c cX11_holds 6 RX11 := fx
  have hl : lv_has ls 6 [(0, .ref x0), (1, .int x1), (2, .int x2)] := hl
  have hok : gOk (f_X11_holds τ n x0 x1 x2 G) (fun q => q = (r, G')) := ⟨_, h, rfl⟩
  unfold f_X11_holds at hok
  show W p l e rm_X11_holds s m args below meth c s.heap [] 0 0 (MQ below (gQ X τ (some (.int r)) G') args s 0 0 (gFree X)) _
  refine lv_aload_n fx.1 fx.2.1 dX11_holds_0 rfl (lv_at hl 0 rfl) ?_
  refine lv_iconst (v := 0) fx.1 fx.2.1 dX11_holds_1 (by decide) ?_
  refine g_puti fx hw h0 lp_RX11_3 rfl rfl dX11_holds_2 hok (fun G1 H locs hw hok => ?_)
  refine lv_aload_n fx.1 fx.2.1 dX11_holds_5 rfl (lv_at hl 0 rfl) ?_
  refine lv_aload_n fx.1 fx.2.1 dX11_holds_6 rfl (lv_at hl 0 rfl) ?_
  refine lv_iload_n fx.1 fx.2.1 dX11_holds_7 rfl (lv_at hl 1 rfl) ?_
  obtain ⟨v2, hf, hok⟩ := gOk_bind hok
  refine g_callV0 (κ := 11) fx hw (c_X11_noRope l X τ x0 x1 G1 h0 hf) lv_RX11_321 ⟨rfl, rfl⟩ rfl rfl h0 rfl hl.1 rfl ⟨Nat.le_of_ble_eq_true rfl, Nat.le_of_ble_eq_true rfl⟩ (Nat.le_of_ble_eq_true rfl) ⟨Nat.le_of_ble_eq_true rfl, Nat.le_of_ble_eq_true rfl⟩ dX11_holds_8 (fun H locs hw => ?_)
  refine lv_iconst (v := 1) fx.1 fx.2.1 dX11_holds_11 (by decide) ?_
  obtain ⟨v3, G4, hf, hok⟩ := gOk_bind2 hok
  refine g_callV0 (κ := 11) fx hw (c_X11_throwsIf l X τ x0 v2 (1 : Int32) G1 h0 hf) lv_RX11_263 ⟨rfl, rfl⟩ rfl rfl h0 rfl hl.1 rfl ⟨Nat.le_of_ble_eq_true rfl, Nat.le_of_ble_eq_true rfl⟩ (Nat.le_of_ble_eq_true rfl) ⟨Nat.le_of_ble_eq_true rfl, Nat.le_of_ble_eq_true rfl⟩ dX11_holds_12 (fun H locs hw => ?_)
  refine g_if_eq (tgt := 20) fx dX11_holds_15 (by decide) hok (fun hok => ?_) (fun hok => ?_)
  · refine lv_aload_n fx.1 fx.2.1 dX11_holds_20 rfl (lv_at hl 0 rfl) ?_
    obtain ⟨G5, hf, hok⟩ := gOk_bind hok
    refine g_callV0 (κ := 11) fx hw (c_X11_keepsAll l X τ n x0 G4 h0 hf) lv_RX11_408 ⟨rfl, rfl⟩ rfl rfl h0 rfl hl.1 rfl ⟨Nat.le_of_ble_eq_true rfl, Nat.le_of_ble_eq_true rfl⟩ (Nat.le_of_ble_eq_true rfl) ⟨Nat.le_of_ble_eq_true rfl, Nat.le_of_ble_eq_true rfl⟩ dX11_holds_21 (fun H locs hw => ?_)
    refine lv_iconst (v := 0) fx.1 fx.2.1 dX11_holds_24 (by decide) ?_
    refine lv_istore_n (lv' := [(3, .int (0 : Int32)), (0, .ref x0), (1, .int x1), (2, .int x2)]) fx.1 fx.2.1 dX11_holds_25 rfl hl (by decide) rfl (fun ls hl => ?_)
    refine lv_iconst (v := (-1)) fx.1 fx.2.1 dX11_holds_26 (by decide) ?_
    refine lv_istore (lv' := [(4, .int (-1 : Int32)), (3, .int (0 : Int32)), (0, .ref x0), (1, .int x1), (2, .int x2)]) fx.1 fx.2.1 dX11_holds_27 hl (by decide) rfl (fun ls hl => ?_)
    refine lv_iconst (v := 0) fx.1 fx.2.1 dX11_holds_29 (by decide) ?_
    refine lv_istore (lv' := [(5, .int (0 : Int32)), (4, .int (-1 : Int32)), (3, .int (0 : Int32)), (0, .ref x0), (1, .int x1), (2, .int x2)]) fx.1 fx.2.1 dX11_holds_30 hl (by decide) rfl (fun ls hl => ?_)
    refine w_l_X11_holds_32 fx n x0 x1 x2 h0 ?_ n (0 : Int32) (-1 : Int32) (0 : Int32) G5 _ _ _  hw (lv_sub hl [3, 4, 5, 2, 1, 0] rfl) (gOk_bindK hok)
    intro z15 z16 G17 H locs ls hw hl hok
    have hok : gOk (ρ := Int32 × gG) (k_X11_holds_113 τ n x0 x2 z15 z16  G17) _ := hok
    exact w_X11_holds_113 fx n x0 x2 z15 z16  h0  hr hw (lv_sub hl [0, 1, 2, 3] rfl) hok
  · refine lv_iconst (v := 0) fx.1 fx.2.1 dX11_holds_18 (by decide) ?_
    cases gOk_some hok
    exact g_iret fx hw hr dX11_holds_19
theorem dX11_would_0 : decode cX11_would 0 = .ok (.aload_n 0, 1) := by decide +kernel
theorem dX11_would_1 : decode cX11_would 1 = .ok (.iconst 0, 1) := by decide +kernel
theorem dX11_would_2 : decode cX11_would 2 = .ok (.putfield 3, 3) := by decide +kernel
theorem dX11_would_5 : decode cX11_would 5 = .ok (.aload_n 0, 1) := by decide +kernel
theorem dX11_would_6 : decode cX11_would 6 = .ok (.aload_n 0, 1) := by decide +kernel
theorem dX11_would_7 : decode cX11_would 7 = .ok (.iload_n 1, 1) := by decide +kernel
theorem dX11_would_8 : decode cX11_would 8 = .ok (.invokevirtual 321, 3) := by decide +kernel
theorem dX11_would_11 : decode cX11_would 11 = .ok (.iconst 1, 1) := by decide +kernel
theorem dX11_would_12 : decode cX11_would 12 = .ok (.invokevirtual 263, 3) := by decide +kernel
theorem dX11_would_15 : decode cX11_would 15 = .ok (.ifCond .ne 25, 3) := by decide +kernel
theorem dX11_would_18 : decode cX11_would 18 = .ok (.aload_n 0, 1) := by decide +kernel
theorem dX11_would_19 : decode cX11_would 19 = .ok (.iload_n 2, 1) := by decide +kernel
theorem dX11_would_20 : decode cX11_would 20 = .ok (.iconst 0, 1) := by decide +kernel
theorem dX11_would_21 : decode cX11_would 21 = .ok (.iconst 2, 1) := by decide +kernel
theorem dX11_would_22 : decode cX11_would 22 = .ok (.invokestatic 69, 3) := by decide +kernel
theorem dX11_would_25 : decode cX11_would 25 = .ok (.ifCond .ne 7, 3) := by decide +kernel
theorem dX11_would_28 : decode cX11_would 28 = .ok (.iconst 1, 1) := by decide +kernel
theorem dX11_would_29 : decode cX11_would 29 = .ok (.goto 4, 3) := by decide +kernel
theorem dX11_would_32 : decode cX11_would 32 = .ok (.iconst 0, 1) := by decide +kernel
theorem dX11_would_33 : decode cX11_would 33 = .ok (.iconst 2, 1) := by decide +kernel
theorem dX11_would_34 : decode cX11_would 34 = .ok (.invokevirtual 263, 3) := by decide +kernel
theorem dX11_would_37 : decode cX11_would 37 = .ok (.ifCond .eq 5, 3) := by decide +kernel
theorem dX11_would_40 : decode cX11_would 40 = .ok (.iconst 0, 1) := by decide +kernel
theorem dX11_would_41 : decode cX11_would 41 = .ok (.ireturn, 1) := by decide +kernel
theorem dX11_would_42 : decode cX11_would 42 = .ok (.aload_n 0, 1) := by decide +kernel
theorem dX11_would_43 : decode cX11_would 43 = .ok (.invokevirtual 408, 3) := by decide +kernel
theorem dX11_would_46 : decode cX11_would 46 = .ok (.iload_n 2, 1) := by decide +kernel
theorem dX11_would_47 : decode cX11_would 47 = .ok (.ifCond .ne 11, 3) := by decide +kernel
theorem dX11_would_50 : decode cX11_would 50 = .ok (.aload_n 0, 1) := by decide +kernel
theorem dX11_would_51 : decode cX11_would 51 = .ok (.iload_n 1, 1) := by decide +kernel
theorem dX11_would_52 : decode cX11_would 52 = .ok (.invokevirtual 349, 3) := by decide +kernel
theorem dX11_would_55 : decode cX11_would 55 = .ok (.goto 36, 3) := by decide +kernel
theorem dX11_would_58 : decode cX11_would 58 = .ok (.iload_n 2, 1) := by decide +kernel
theorem dX11_would_59 : decode cX11_would 59 = .ok (.iconst 2, 1) := by decide +kernel
theorem dX11_would_60 : decode cX11_would 60 = .ok (.if_icmp .ne 18, 3) := by decide +kernel
theorem dX11_would_63 : decode cX11_would 63 = .ok (.aload_n 0, 1) := by decide +kernel
theorem dX11_would_64 : decode cX11_would 64 = .ok (.getfield 13, 3) := by decide +kernel
theorem dX11_would_67 : decode cX11_would 67 = .ok (.iload_n 1, 1) := by decide +kernel
theorem dX11_would_68 : decode cX11_would 68 = .ok (.bipush 6, 2) := by decide +kernel
theorem dX11_would_70 : decode cX11_would 70 = .ok (.invokestatic 59, 3) := by decide +kernel
theorem dX11_would_73 : decode cX11_would 73 = .ok (.iconst 1, 1) := by decide +kernel
theorem dX11_would_74 : decode cX11_would 74 = .ok (.iastore, 1) := by decide +kernel
theorem dX11_would_75 : decode cX11_would 75 = .ok (.goto 16, 3) := by decide +kernel
theorem dX11_would_78 : decode cX11_would 78 = .ok (.aload_n 0, 1) := by decide +kernel
theorem dX11_would_79 : decode cX11_would 79 = .ok (.iload_n 1, 1) := by decide +kernel
theorem dX11_would_80 : decode cX11_would 80 = .ok (.invokevirtual 353, 3) := by decide +kernel
theorem dX11_would_83 : decode cX11_would 83 = .ok (.ifCond .eq 8, 3) := by decide +kernel
theorem dX11_would_86 : decode cX11_would 86 = .ok (.aload_n 0, 1) := by decide +kernel
theorem dX11_would_87 : decode cX11_would 87 = .ok (.iload_n 1, 1) := by decide +kernel
theorem dX11_would_88 : decode cX11_would 88 = .ok (.invokevirtual 356, 3) := by decide +kernel
theorem dX11_would_91 : decode cX11_would 91 = .ok (.aload_n 0, 1) := by decide +kernel
theorem dX11_would_92 : decode cX11_would 92 = .ok (.iload_n 1, 1) := by decide +kernel
theorem dX11_would_93 : decode cX11_would 93 = .ok (.invokevirtual 303, 3) := by decide +kernel
theorem dX11_would_96 : decode cX11_would 96 = .ok (.istore_n 3, 1) := by decide +kernel
theorem dX11_would_97 : decode cX11_would 97 = .ok (.aload_n 0, 1) := by decide +kernel
theorem dX11_would_98 : decode cX11_would 98 = .ok (.invokevirtual 411, 3) := by decide +kernel
theorem dX11_would_101 : decode cX11_would 101 = .ok (.iload_n 3, 1) := by decide +kernel
theorem dX11_would_102 : decode cX11_would 102 = .ok (.ireturn, 1) := by decide +kernel
def rm_X11_would : Room := { frames := 8, cells := 0, slots := 0, locals := 185 }
def k_X11_would_91 (τ : gτ) (n : Nat) (x0 : Nat) (x1 : Int32)  (G : gG) : Option (Int32 × gG) :=
  gBind2 (f_X11_bearsOf τ n x0 x1 G) fun v10 G11 =>
  (f_X11_bringsBack τ n x0 G11).bind fun G12 =>
  some (v10, G12)
def k_X11_would_33 (τ : gτ) (n : Nat) (x0 : Nat) (x1 : Int32) (x2 : Int32) (s0 : Nat) (s1 : Int32) (G : gG) : Option (Int32 × gG) :=
  gBind2 (f_X11_throwsIf s0 s1 (2 : Int32) G) fun v6 G7 =>
  if v6 = 0 then ((f_X11_keepsAll τ n x0 G7).bind fun G8 =>
  if x2 = 0 then ((f_X11_tars τ x0 x1 G8).bind fun G9 =>
  k_X11_would_91 τ n x0 x1  G9)
  else (if x2 = (2 : Int32) then ((gr G8 11 1 x0).bind fun a13 =>
  (f_X11_at x1 (6 : Int32)).bind fun v14 =>
  gchk (gIn v14 (gn τ a13)) <| gLet (gse G8 a13 (Int32.toNatClampNeg v14) (1 : Int32)) fun G15 =>
  k_X11_would_91 τ n x0 x1  G15)
  else ((f_X11_canDouble τ x0 x1 G8).bind fun v16 =>
  if v16 = 0 then (k_X11_would_91 τ n x0 x1  G8)
  else ((f_X11_doubles τ x0 x1 G8).bind fun G17 =>
  k_X11_would_91 τ n x0 x1  G17))))
  else (some (0, G7))
def f_X11_would (τ : gτ) (n : Nat) (x0 : Nat) (x1 : Int32) (x2 : Int32) (G : gG) : Option (Int32 × gG) :=
  gLet (gsi G 11 0 x0 (0 : Int32)) fun G1 =>
  (f_X11_noRope τ x0 x1 G1).bind fun v2 =>
  gBind2 (f_X11_throwsIf x0 v2 (1 : Int32) G1) fun v3 G4 =>
  if v3 = 0 then ((f_X11_in x2 (0 : Int32) (2 : Int32)).bind fun v5 =>
  if v5 = 0 then (k_X11_would_33 τ n x0 x1 x2 x0 (1 : Int32) G4)
  else (k_X11_would_33 τ n x0 x1 x2 x0 (0 : Int32) G4))
  else (some (0, G4))
set_option maxHeartbeats 4000000 in
set_option maxRecDepth 100000 in
theorem w_X11_would_91 {X : gX} {τ : gτ} {p : Program} {l : Launch} {e : Env} {s : State} {m : MethodId} {args : Array Value} {below : List Frame} {meth : Method} {c : Code} (fx : gFx X p s m args meth c cX11_would 4 RX11) (n : Nat) (x0 : Nat) (x1 : Int32)  (h0 : gK τ x0 11)  (hr : meth.sig.returnType = (some .int)) {r : Int32} {G' : gG} {G : gG} {H : Heap} {locs : List Loc} {ls : Array Slot} (hw : gHw X τ G H locs) (hl : lv_has ls 4 [(0, .ref x0), (1, .int x1)]) (hok : gOk (k_X11_would_91 τ n x0 x1  G) (fun q => q = (r, G')))  : W p l e rm_X11_would s m args below meth c H locs 0 0 (MQ below (gQ X τ (some (.int r)) G') args s 0 0 (gFree X)) (F0 m 91 ls []) := by
  unfold k_X11_would_91 at hok
  refine lv_aload_n fx.1 fx.2.1 dX11_would_91 rfl (lv_at hl 0 rfl) ?_
  refine lv_iload_n fx.1 fx.2.1 dX11_would_92 rfl (lv_at hl 1 rfl) ?_
  obtain ⟨v10, G11, hf, hok⟩ := gOk_bind2 hok
  refine g_callV0 (κ := 11) fx hw (c_X11_bearsOf l X τ n x0 x1 G h0 hf) lv_RX11_303 ⟨rfl, rfl⟩ rfl rfl h0 rfl hl.1 rfl ⟨Nat.le_of_ble_eq_true rfl, Nat.le_of_ble_eq_true rfl⟩ (Nat.le_of_ble_eq_true rfl) ⟨Nat.le_of_ble_eq_true rfl, Nat.le_of_ble_eq_true rfl⟩ dX11_would_93 (fun H locs hw => ?_)
  refine lv_istore_n (lv' := [(3, .int v10), (0, .ref x0), (1, .int x1)]) fx.1 fx.2.1 dX11_would_96 rfl hl (by decide) rfl (fun ls hl => ?_)
  refine lv_aload_n fx.1 fx.2.1 dX11_would_97 rfl (lv_at hl 1 rfl) ?_
  obtain ⟨G12, hf, hok⟩ := gOk_bind hok
  refine g_callV0 (κ := 11) fx hw (c_X11_bringsBack l X τ n x0 G11 h0 hf) lv_RX11_411 ⟨rfl, rfl⟩ rfl rfl h0 rfl hl.1 rfl ⟨Nat.le_of_ble_eq_true rfl, Nat.le_of_ble_eq_true rfl⟩ (Nat.le_of_ble_eq_true rfl) ⟨Nat.le_of_ble_eq_true rfl, Nat.le_of_ble_eq_true rfl⟩ dX11_would_98 (fun H locs hw => ?_)
  refine lv_iload_n fx.1 fx.2.1 dX11_would_101 rfl (lv_at hl 0 rfl) ?_
  cases gOk_some hok
  exact g_iret fx hw hr dX11_would_102
set_option maxHeartbeats 4000000 in
set_option maxRecDepth 100000 in
theorem w_X11_would_33 {X : gX} {τ : gτ} {p : Program} {l : Launch} {e : Env} {s : State} {m : MethodId} {args : Array Value} {below : List Frame} {meth : Method} {c : Code} (fx : gFx X p s m args meth c cX11_would 4 RX11) (n : Nat) (x0 : Nat) (x1 : Int32) (x2 : Int32) (s0 : Nat) (s1 : Int32) (h0 : gK τ x0 11) (hs0 : gK τ s0 11) (hr : meth.sig.returnType = (some .int)) {r : Int32} {G' : gG} {G : gG} {H : Heap} {locs : List Loc} {ls : Array Slot} (hw : gHw X τ G H locs) (hl : lv_has ls 4 [(0, .ref x0), (1, .int x1), (2, .int x2)]) (hok : gOk (k_X11_would_33 τ n x0 x1 x2 s0 s1 G) (fun q => q = (r, G')))  : W p l e rm_X11_would s m args below meth c H locs 0 0 (MQ below (gQ X τ (some (.int r)) G') args s 0 0 (gFree X)) (F0 m 33 ls [.int s1, .ref s0]) := by
  unfold k_X11_would_33 at hok
  refine lv_iconst (v := 2) fx.1 fx.2.1 dX11_would_33 (by decide) ?_
  obtain ⟨v6, G7, hf, hok⟩ := gOk_bind2 hok
  refine g_callV0 (κ := 11) fx hw (c_X11_throwsIf l X τ s0 s1 (2 : Int32) G hs0 hf) lv_RX11_263 ⟨rfl, rfl⟩ rfl rfl hs0 rfl hl.1 rfl ⟨Nat.le_of_ble_eq_true rfl, Nat.le_of_ble_eq_true rfl⟩ (Nat.le_of_ble_eq_true rfl) ⟨Nat.le_of_ble_eq_true rfl, Nat.le_of_ble_eq_true rfl⟩ dX11_would_34 (fun H locs hw => ?_)
  refine g_if_eq (tgt := 42) fx dX11_would_37 (by decide) hok (fun hok => ?_) (fun hok => ?_)
  · refine lv_aload_n fx.1 fx.2.1 dX11_would_42 rfl (lv_at hl 0 rfl) ?_
    obtain ⟨G8, hf, hok⟩ := gOk_bind hok
    refine g_callV0 (κ := 11) fx hw (c_X11_keepsAll l X τ n x0 G7 h0 hf) lv_RX11_408 ⟨rfl, rfl⟩ rfl rfl h0 rfl hl.1 rfl ⟨Nat.le_of_ble_eq_true rfl, Nat.le_of_ble_eq_true rfl⟩ (Nat.le_of_ble_eq_true rfl) ⟨Nat.le_of_ble_eq_true rfl, Nat.le_of_ble_eq_true rfl⟩ dX11_would_43 (fun H locs hw => ?_)
    refine lv_iload_n fx.1 fx.2.1 dX11_would_46 rfl (lv_at hl 2 rfl) ?_
    refine g_if_ne (tgt := 58) fx dX11_would_47 (by decide) hok (fun hok => ?_) (fun hok => ?_)
    · refine lv_aload_n fx.1 fx.2.1 dX11_would_50 rfl (lv_at hl 0 rfl) ?_
      refine lv_iload_n fx.1 fx.2.1 dX11_would_51 rfl (lv_at hl 1 rfl) ?_
      obtain ⟨G9, hf, hok⟩ := gOk_bind hok
      refine g_callV0 (κ := 11) fx hw (c_X11_tars l X τ x0 x1 G8 h0 hf) lv_RX11_349 ⟨rfl, rfl⟩ rfl rfl h0 rfl hl.1 rfl ⟨Nat.le_of_ble_eq_true rfl, Nat.le_of_ble_eq_true rfl⟩ (Nat.le_of_ble_eq_true rfl) ⟨Nat.le_of_ble_eq_true rfl, Nat.le_of_ble_eq_true rfl⟩ dX11_would_52 (fun H locs hw => ?_)
      refine lv_goto (tgt := 91) fx.1 fx.2.1 dX11_would_55 (by decide) ?_
      exact w_X11_would_91 fx n x0 x1  h0  hr hw (lv_sub hl [0, 1] rfl) hok
    · refine lv_iload_n fx.1 fx.2.1 dX11_would_58 rfl (lv_at hl 2 rfl) ?_
      refine lv_iconst (v := 2) fx.1 fx.2.1 dX11_would_59 (by decide) ?_
      refine g_icmp_ne (tgt := 78) fx dX11_would_60 (by decide) hok (fun hok => ?_) (fun hok => ?_)
      · refine lv_aload_n fx.1 fx.2.1 dX11_would_63 rfl (lv_at hl 0 rfl) ?_
        refine g_getr fx hw h0 lf_RX11_13 rfl dX11_would_64 hok (fun a13 h_a13 hok => ?_)
        refine lv_iload_n fx.1 fx.2.1 dX11_would_67 rfl (lv_at hl 1 rfl) ?_
        refine lv_bipush (v := 6) fx.1 fx.2.1 dX11_would_68 (by decide) ?_
        obtain ⟨v14, hf, hok⟩ := gOk_bind hok
        refine g_callS0 fx hw (c_X11_at l X τ x1 (6 : Int32) G8  hf) ls_RX11_59 ⟨rfl, rfl⟩ rfl hl.1 rfl ⟨Nat.le_of_ble_eq_true rfl, Nat.le_of_ble_eq_true rfl⟩ (Nat.le_of_ble_eq_true rfl) ⟨Nat.le_of_ble_eq_true rfl, Nat.le_of_ble_eq_true rfl⟩ dX11_would_70 (fun H locs hw => ?_)
        refine lv_iconst (v := 1) fx.1 fx.2.1 dX11_would_73 (by decide) ?_
        refine g_iast fx hw h_a13 dX11_would_74 hok (fun G15 H locs hw hok => ?_)
        refine lv_goto (tgt := 91) fx.1 fx.2.1 dX11_would_75 (by decide) ?_
        exact w_X11_would_91 fx n x0 x1  h0  hr hw (lv_sub hl [0, 1] rfl) hok
      · refine lv_aload_n fx.1 fx.2.1 dX11_would_78 rfl (lv_at hl 0 rfl) ?_
        refine lv_iload_n fx.1 fx.2.1 dX11_would_79 rfl (lv_at hl 1 rfl) ?_
        obtain ⟨v16, hf, hok⟩ := gOk_bind hok
        refine g_callV0 (κ := 11) fx hw (c_X11_canDouble l X τ x0 x1 G8 h0 hf) lv_RX11_353 ⟨rfl, rfl⟩ rfl rfl h0 rfl hl.1 rfl ⟨Nat.le_of_ble_eq_true rfl, Nat.le_of_ble_eq_true rfl⟩ (Nat.le_of_ble_eq_true rfl) ⟨Nat.le_of_ble_eq_true rfl, Nat.le_of_ble_eq_true rfl⟩ dX11_would_80 (fun H locs hw => ?_)
        refine g_if_eq (tgt := 91) fx dX11_would_83 (by decide) hok (fun hok => ?_) (fun hok => ?_)
        · exact w_X11_would_91 fx n x0 x1  h0  hr hw (lv_sub hl [0, 1] rfl) hok
        · refine lv_aload_n fx.1 fx.2.1 dX11_would_86 rfl (lv_at hl 0 rfl) ?_
          refine lv_iload_n fx.1 fx.2.1 dX11_would_87 rfl (lv_at hl 1 rfl) ?_
          obtain ⟨G17, hf, hok⟩ := gOk_bind hok
          refine g_callV0 (κ := 11) fx hw (c_X11_doubles l X τ x0 x1 G8 h0 hf) lv_RX11_356 ⟨rfl, rfl⟩ rfl rfl h0 rfl hl.1 rfl ⟨Nat.le_of_ble_eq_true rfl, Nat.le_of_ble_eq_true rfl⟩ (Nat.le_of_ble_eq_true rfl) ⟨Nat.le_of_ble_eq_true rfl, Nat.le_of_ble_eq_true rfl⟩ dX11_would_88 (fun H locs hw => ?_)
          exact w_X11_would_91 fx n x0 x1  h0  hr hw (lv_sub hl [0, 1] rfl) hok
  · refine lv_iconst (v := 0) fx.1 fx.2.1 dX11_would_40 (by decide) ?_
    cases gOk_some hok
    exact g_iret fx hw hr dX11_would_41
set_option maxHeartbeats 4000000 in
set_option maxRecDepth 100000 in
theorem c_X11_would (l : Launch) (X : gX) (τ : gτ) (n : Nat) (x0 : Nat) (x1 : Int32) (x2 : Int32) (G : gG) (h0 : gK τ x0 11) {r : Int32} {G' : gG} (h : f_X11_would τ n x0 x1 x2 G = some (r, G')) : gM l X τ yX11_would cX11_would 4 (some .int) rm_X11_would [.ref x0, .int x1, .int x2] G (some (.int r)) G' := by
  refine g_body (by decide +kernel) (Nat.le_of_ble_eq_true rfl) ?_
  intro p e s m args below meth c ls fx hr hw hl
  have fx : gFx X p s m args meth c cX11_would 4 RX11 := fx
  have hl : lv_has ls 4 [(0, .ref x0), (1, .int x1), (2, .int x2)] := hl
  have hok : gOk (f_X11_would τ n x0 x1 x2 G) (fun q => q = (r, G')) := ⟨_, h, rfl⟩
  unfold f_X11_would at hok
  show W p l e rm_X11_would s m args below meth c s.heap [] 0 0 (MQ below (gQ X τ (some (.int r)) G') args s 0 0 (gFree X)) _
  refine lv_aload_n fx.1 fx.2.1 dX11_would_0 rfl (lv_at hl 0 rfl) ?_
  refine lv_iconst (v := 0) fx.1 fx.2.1 dX11_would_1 (by decide) ?_
  refine g_puti fx hw h0 lp_RX11_3 rfl rfl dX11_would_2 hok (fun G1 H locs hw hok => ?_)
  refine lv_aload_n fx.1 fx.2.1 dX11_would_5 rfl (lv_at hl 0 rfl) ?_
  refine lv_aload_n fx.1 fx.2.1 dX11_would_6 rfl (lv_at hl 0 rfl) ?_
  refine lv_iload_n fx.1 fx.2.1 dX11_would_7 rfl (lv_at hl 1 rfl) ?_
  obtain ⟨v2, hf, hok⟩ := gOk_bind hok
  refine g_callV0 (κ := 11) fx hw (c_X11_noRope l X τ x0 x1 G1 h0 hf) lv_RX11_321 ⟨rfl, rfl⟩ rfl rfl h0 rfl hl.1 rfl ⟨Nat.le_of_ble_eq_true rfl, Nat.le_of_ble_eq_true rfl⟩ (Nat.le_of_ble_eq_true rfl) ⟨Nat.le_of_ble_eq_true rfl, Nat.le_of_ble_eq_true rfl⟩ dX11_would_8 (fun H locs hw => ?_)
  refine lv_iconst (v := 1) fx.1 fx.2.1 dX11_would_11 (by decide) ?_
  obtain ⟨v3, G4, hf, hok⟩ := gOk_bind2 hok
  refine g_callV0 (κ := 11) fx hw (c_X11_throwsIf l X τ x0 v2 (1 : Int32) G1 h0 hf) lv_RX11_263 ⟨rfl, rfl⟩ rfl rfl h0 rfl hl.1 rfl ⟨Nat.le_of_ble_eq_true rfl, Nat.le_of_ble_eq_true rfl⟩ (Nat.le_of_ble_eq_true rfl) ⟨Nat.le_of_ble_eq_true rfl, Nat.le_of_ble_eq_true rfl⟩ dX11_would_12 (fun H locs hw => ?_)
  refine g_if_ne (tgt := 40) fx dX11_would_15 (by decide) hok (fun hok => ?_) (fun hok => ?_)
  · refine lv_aload_n fx.1 fx.2.1 dX11_would_18 rfl (lv_at hl 0 rfl) ?_
    refine lv_iload_n fx.1 fx.2.1 dX11_would_19 rfl (lv_at hl 2 rfl) ?_
    refine lv_iconst (v := 0) fx.1 fx.2.1 dX11_would_20 (by decide) ?_
    refine lv_iconst (v := 2) fx.1 fx.2.1 dX11_would_21 (by decide) ?_
    obtain ⟨v5, hf, hok⟩ := gOk_bind hok
    refine g_callS0 fx hw (c_X11_in l X τ x2 (0 : Int32) (2 : Int32) G4  hf) ls_RX11_69 ⟨rfl, rfl⟩ rfl hl.1 rfl ⟨Nat.le_of_ble_eq_true rfl, Nat.le_of_ble_eq_true rfl⟩ (Nat.le_of_ble_eq_true rfl) ⟨Nat.le_of_ble_eq_true rfl, Nat.le_of_ble_eq_true rfl⟩ dX11_would_22 (fun H locs hw => ?_)
    refine g_if_ne (tgt := 32) fx dX11_would_25 (by decide) hok (fun hok => ?_) (fun hok => ?_)
    · refine lv_iconst (v := 1) fx.1 fx.2.1 dX11_would_28 (by decide) ?_
      refine lv_goto (tgt := 33) fx.1 fx.2.1 dX11_would_29 (by decide) ?_
      exact w_X11_would_33 fx n x0 x1 x2 x0 (1 : Int32) h0 h0 hr hw (lv_sub hl [0, 1, 2] rfl) hok
    · refine lv_iconst (v := 0) fx.1 fx.2.1 dX11_would_32 (by decide) ?_
      exact w_X11_would_33 fx n x0 x1 x2 x0 (0 : Int32) h0 h0 hr hw (lv_sub hl [0, 1, 2] rfl) hok
  · refine lv_iconst (v := 0) fx.1 fx.2.1 dX11_would_40 (by decide) ?_
    cases gOk_some hok
    exact g_iret fx hw hr dX11_would_41
theorem dX11_weakest_0 : decode cX11_weakest 0 = .ok (.aload_n 0, 1) := by decide +kernel
theorem dX11_weakest_1 : decode cX11_weakest 1 = .ok (.iconst 0, 1) := by decide +kernel
theorem dX11_weakest_2 : decode cX11_weakest 2 = .ok (.putfield 3, 3) := by decide +kernel
theorem dX11_weakest_5 : decode cX11_weakest 5 = .ok (.iconst (-1), 1) := by decide +kernel
theorem dX11_weakest_6 : decode cX11_weakest 6 = .ok (.istore_n 1, 1) := by decide +kernel
theorem dX11_weakest_7 : decode cX11_weakest 7 = .ok (.iconst 0, 1) := by decide +kernel
theorem dX11_weakest_8 : decode cX11_weakest 8 = .ok (.istore_n 2, 1) := by decide +kernel
theorem dX11_weakest_9 : decode cX11_weakest 9 = .ok (.iload_n 2, 1) := by decide +kernel
theorem dX11_weakest_10 : decode cX11_weakest 10 = .ok (.aload_n 0, 1) := by decide +kernel
theorem dX11_weakest_11 : decode cX11_weakest 11 = .ok (.invokevirtual 73, 3) := by decide +kernel
theorem dX11_weakest_14 : decode cX11_weakest 14 = .ok (.if_icmp .ge 52, 3) := by decide +kernel
theorem dX11_weakest_17 : decode cX11_weakest 17 = .ok (.aload_n 0, 1) := by decide +kernel
theorem dX11_weakest_18 : decode cX11_weakest 18 = .ok (.iload_n 2, 1) := by decide +kernel
theorem dX11_weakest_19 : decode cX11_weakest 19 = .ok (.invokevirtual 146, 3) := by decide +kernel
theorem dX11_weakest_22 : decode cX11_weakest 22 = .ok (.ifCond .eq 38, 3) := by decide +kernel
theorem dX11_weakest_25 : decode cX11_weakest 25 = .ok (.iload_n 1, 1) := by decide +kernel
theorem dX11_weakest_26 : decode cX11_weakest 26 = .ok (.ifCond .lt 32, 3) := by decide +kernel
theorem dX11_weakest_29 : decode cX11_weakest 29 = .ok (.aload_n 0, 1) := by decide +kernel
theorem dX11_weakest_30 : decode cX11_weakest 30 = .ok (.iload_n 2, 1) := by decide +kernel
theorem dX11_weakest_31 : decode cX11_weakest 31 = .ok (.invokevirtual 303, 3) := by decide +kernel
theorem dX11_weakest_34 : decode cX11_weakest 34 = .ok (.aload_n 0, 1) := by decide +kernel
theorem dX11_weakest_35 : decode cX11_weakest 35 = .ok (.iload_n 2, 1) := by decide +kernel
theorem dX11_weakest_36 : decode cX11_weakest 36 = .ok (.bipush 9, 2) := by decide +kernel
theorem dX11_weakest_38 : decode cX11_weakest 38 = .ok (.invokevirtual 62, 3) := by decide +kernel
theorem dX11_weakest_41 : decode cX11_weakest 41 = .ok (.isub, 1) := by decide +kernel
theorem dX11_weakest_42 : decode cX11_weakest 42 = .ok (.aload_n 0, 1) := by decide +kernel
theorem dX11_weakest_43 : decode cX11_weakest 43 = .ok (.iload_n 1, 1) := by decide +kernel
theorem dX11_weakest_44 : decode cX11_weakest 44 = .ok (.invokevirtual 303, 3) := by decide +kernel
theorem dX11_weakest_47 : decode cX11_weakest 47 = .ok (.aload_n 0, 1) := by decide +kernel
theorem dX11_weakest_48 : decode cX11_weakest 48 = .ok (.iload_n 1, 1) := by decide +kernel
theorem dX11_weakest_49 : decode cX11_weakest 49 = .ok (.bipush 9, 2) := by decide +kernel
theorem dX11_weakest_51 : decode cX11_weakest 51 = .ok (.invokevirtual 62, 3) := by decide +kernel
theorem dX11_weakest_54 : decode cX11_weakest 54 = .ok (.isub, 1) := by decide +kernel
theorem dX11_weakest_55 : decode cX11_weakest 55 = .ok (.if_icmp .ge 5, 3) := by decide +kernel
theorem dX11_weakest_58 : decode cX11_weakest 58 = .ok (.iload_n 2, 1) := by decide +kernel
theorem dX11_weakest_59 : decode cX11_weakest 59 = .ok (.istore_n 1, 1) := by decide +kernel
theorem dX11_weakest_60 : decode cX11_weakest 60 = .ok (.iinc 2 1, 3) := by decide +kernel
theorem dX11_weakest_63 : decode cX11_weakest 63 = .ok (.goto (-54), 3) := by decide +kernel
theorem dX11_weakest_66 : decode cX11_weakest 66 = .ok (.iload_n 1, 1) := by decide +kernel
theorem dX11_weakest_67 : decode cX11_weakest 67 = .ok (.ireturn, 1) := by decide +kernel
def rm_X11_weakest : Room := { frames := 8, cells := 0, slots := 0, locals := 185 }
def k_X11_weakest_58 (τ : gτ) (n : Nat) (x0 : Nat) (x2 : Int32)  (G : gG) : Option ((Int32 × Int32 × gG) ⊕ ((Int32 × gG))) :=
  gLet (x2 + 1) fun v5 =>
  some (.inl (x2, v5, G))
def b_X11_weakest_9 (τ : gτ) (n : Nat) (x0 : Nat) (x1 : Int32) (x2 : Int32) (G : gG) : Option ((Int32 × Int32 × gG) ⊕ ((Int32 × gG))) :=
  (f_X11_ropes τ x0 G).bind fun v2 =>
  if v2 ≤ x2 then (some (.inr (x1, G)))
  else ((f_X11_isWhole τ x0 x2 G).bind fun v3 =>
  if v3 = 0 then (gLet (x2 + 1) fun v4 =>
  some (.inl (x1, v4, G)))
  else (if x1 < 0 then (k_X11_weakest_58 τ n x0 x2  G)
  else (gBind2 (f_X11_bearsOf τ n x0 x2 G) fun v6 G7 =>
  (f_X11_of τ x0 x2 (9 : Int32) G7).bind fun v8 =>
  gBind2 (f_X11_bearsOf τ n x0 x1 G7) fun v9 G10 =>
  (f_X11_of τ x0 x1 (9 : Int32) G10).bind fun v11 =>
  if (v9 - v11) ≤ (v6 - v8) then (gLet (x2 + 1) fun v12 =>
  some (.inl (x1, v12, G10)))
  else (k_X11_weakest_58 τ n x0 x2  G10))))
def l_X11_weakest_9 (τ : gτ) (n : Nat) (x0 : Nat) (x1 : Int32) (x2 : Int32) (G : gG) : Option ((Int32 × gG)) :=
  gIter (fun (q : Int32 × Int32 × gG) => b_X11_weakest_9 τ n x0 q.1 q.2.1 q.2.2) n (x1, x2, G)
def f_X11_weakest (τ : gτ) (n : Nat) (x0 : Nat) (G : gG) : Option (Int32 × gG) :=
  gLet (gsi G 11 0 x0 (0 : Int32)) fun G1 =>
  (l_X11_weakest_9 τ n x0 (-1 : Int32) (0 : Int32) G1).bind fun q => gLet q.1 fun z13 => gLet q.2 fun G14 => 
  some (z13, G14)
set_option maxHeartbeats 4000000 in
set_option maxRecDepth 100000 in
theorem w_X11_weakest_58 {X : gX} {τ : gτ} {p : Program} {l : Launch} {e : Env} {s : State} {m : MethodId} {args : Array Value} {below : List Frame} {meth : Method} {c : Code} (fx : gFx X p s m args meth c cX11_weakest 3 RX11) (n : Nat) (x0 : Nat) (x2 : Int32)  (h0 : gK τ x0 11)  {Q : State → Prop} {K : ((Int32 × Int32 × gG) ⊕ ((Int32 × gG))) → Prop} {G : gG} {H : Heap} {locs : List Loc} {ls : Array Slot} (hw : gHw X τ G H locs) (hl : lv_has ls 3 [(0, .ref x0), (2, .int x2)]) (hok : gOk (k_X11_weakest_58 τ n x0 x2  G) K) (hc : ∀ (y1 : Int32) (y2 : Int32) (G : gG) (H : Heap) (locs : List Loc) (ls : Array Slot), gHw X τ G H locs → lv_has ls 3 [(0, .ref x0), (1, .int y1), (2, .int y2)] → K (.inl (y1, y2, G)) → W p l e rm_X11_weakest s m args below meth c H locs 0 0 Q (F0 m 9 ls [])) (hx0 : ∀ (y1 : Int32) (G : gG) (H : Heap) (locs : List Loc) (ls : Array Slot), gHw X τ G H locs → lv_has ls 3 [(1, .int y1)] → K (.inr (y1, G)) → W p l e rm_X11_weakest s m args below meth c H locs 0 0 Q (F0 m 66 ls [])) : W p l e rm_X11_weakest s m args below meth c H locs 0 0 Q (F0 m 58 ls []) := by
  unfold k_X11_weakest_58 at hok
  refine lv_iload_n fx.1 fx.2.1 dX11_weakest_58 rfl (lv_at hl 1 rfl) ?_
  refine lv_istore_n (lv' := [(1, .int x2), (0, .ref x0), (2, .int x2)]) fx.1 fx.2.1 dX11_weakest_59 rfl hl (by decide) rfl (fun ls hl => ?_)
  obtain ⟨v5, e_v5, hok⟩ := gOk_let hok
  refine lv_iinc (v := v5) (lv' := [(2, .int v5), (1, .int x2), (0, .ref x0)]) fx.1 fx.2.1 dX11_weakest_60 hl (k := 2) rfl (by rw [e_v5]; rfl) (by decide) rfl (fun ls hl => ?_)
  refine lv_goto (tgt := 9) fx.1 fx.2.1 dX11_weakest_63 (by decide) ?_
  exact hc x2 v5 G _ _ _  hw (lv_sub hl [2, 1, 0] rfl) (gOk_some hok)
set_option maxHeartbeats 4000000 in
set_option maxRecDepth 100000 in
theorem w_b_X11_weakest_9 {X : gX} {τ : gτ} {p : Program} {l : Launch} {e : Env} {s : State} {m : MethodId} {args : Array Value} {below : List Frame} {meth : Method} {c : Code} (fx : gFx X p s m args meth c cX11_weakest 3 RX11) (n : Nat) (x0 : Nat) (x1 : Int32) (x2 : Int32) (h0 : gK τ x0 11) {Q : State → Prop} {K : ((Int32 × Int32 × gG) ⊕ ((Int32 × gG))) → Prop} {G : gG} {H : Heap} {locs : List Loc} {ls : Array Slot} (hw : gHw X τ G H locs) (hl : lv_has ls 3 [(0, .ref x0), (1, .int x1), (2, .int x2)]) (hok : gOk (b_X11_weakest_9 τ n x0 x1 x2 G) K) (hc : ∀ (y1 : Int32) (y2 : Int32) (G : gG) (H : Heap) (locs : List Loc) (ls : Array Slot), gHw X τ G H locs → lv_has ls 3 [(0, .ref x0), (1, .int y1), (2, .int y2)] → K (.inl (y1, y2, G)) → W p l e rm_X11_weakest s m args below meth c H locs 0 0 Q (F0 m 9 ls [])) (hx0 : ∀ (y1 : Int32) (G : gG) (H : Heap) (locs : List Loc) (ls : Array Slot), gHw X τ G H locs → lv_has ls 3 [(1, .int y1)] → K (.inr (y1, G)) → W p l e rm_X11_weakest s m args below meth c H locs 0 0 Q (F0 m 66 ls [])) : W p l e rm_X11_weakest s m args below meth c H locs 0 0 Q (F0 m 9 ls []) := by
  unfold b_X11_weakest_9 at hok
  refine lv_iload_n fx.1 fx.2.1 dX11_weakest_9 rfl (lv_at hl 2 rfl) ?_
  refine lv_aload_n fx.1 fx.2.1 dX11_weakest_10 rfl (lv_at hl 0 rfl) ?_
  obtain ⟨v2, hf, hok⟩ := gOk_bind hok
  refine g_callV0 (κ := 11) fx hw (c_X11_ropes l X τ x0 G h0 hf) lv_RX11_73 ⟨rfl, rfl⟩ rfl rfl h0 rfl hl.1 rfl ⟨Nat.le_of_ble_eq_true rfl, Nat.le_of_ble_eq_true rfl⟩ (Nat.le_of_ble_eq_true rfl) ⟨Nat.le_of_ble_eq_true rfl, Nat.le_of_ble_eq_true rfl⟩ dX11_weakest_11 (fun H locs hw => ?_)
  refine g_icmp_ge (tgt := 66) fx dX11_weakest_14 (by decide) hok (fun hok => ?_) (fun hok => ?_)
  · exact hx0 x1 G _ _ _  hw (lv_sub hl [1] rfl) (gOk_some hok)
  · refine lv_aload_n fx.1 fx.2.1 dX11_weakest_17 rfl (lv_at hl 0 rfl) ?_
    refine lv_iload_n fx.1 fx.2.1 dX11_weakest_18 rfl (lv_at hl 2 rfl) ?_
    obtain ⟨v3, hf, hok⟩ := gOk_bind hok
    refine g_callV0 (κ := 11) fx hw (c_X11_isWhole l X τ x0 x2 G h0 hf) lv_RX11_146 ⟨rfl, rfl⟩ rfl rfl h0 rfl hl.1 rfl ⟨Nat.le_of_ble_eq_true rfl, Nat.le_of_ble_eq_true rfl⟩ (Nat.le_of_ble_eq_true rfl) ⟨Nat.le_of_ble_eq_true rfl, Nat.le_of_ble_eq_true rfl⟩ dX11_weakest_19 (fun H locs hw => ?_)
    refine g_if_eq (tgt := 60) fx dX11_weakest_22 (by decide) hok (fun hok => ?_) (fun hok => ?_)
    · obtain ⟨v4, e_v4, hok⟩ := gOk_let hok
      refine lv_iinc (v := v4) (lv' := [(2, .int v4), (0, .ref x0), (1, .int x1)]) fx.1 fx.2.1 dX11_weakest_60 hl (k := 2) rfl (by rw [e_v4]; rfl) (by decide) rfl (fun ls hl => ?_)
      refine lv_goto (tgt := 9) fx.1 fx.2.1 dX11_weakest_63 (by decide) ?_
      exact hc x1 v4 G _ _ _  hw (lv_sub hl [1, 2, 0] rfl) (gOk_some hok)
    · refine lv_iload_n fx.1 fx.2.1 dX11_weakest_25 rfl (lv_at hl 1 rfl) ?_
      refine g_if_lt (tgt := 58) fx dX11_weakest_26 (by decide) hok (fun hok => ?_) (fun hok => ?_)
      · exact w_X11_weakest_58 fx n x0 x2  h0  hw (lv_sub hl [0, 2] rfl) hok hc hx0
      · refine lv_aload_n fx.1 fx.2.1 dX11_weakest_29 rfl (lv_at hl 0 rfl) ?_
        refine lv_iload_n fx.1 fx.2.1 dX11_weakest_30 rfl (lv_at hl 2 rfl) ?_
        obtain ⟨v6, G7, hf, hok⟩ := gOk_bind2 hok
        refine g_callV0 (κ := 11) fx hw (c_X11_bearsOf l X τ n x0 x2 G h0 hf) lv_RX11_303 ⟨rfl, rfl⟩ rfl rfl h0 rfl hl.1 rfl ⟨Nat.le_of_ble_eq_true rfl, Nat.le_of_ble_eq_true rfl⟩ (Nat.le_of_ble_eq_true rfl) ⟨Nat.le_of_ble_eq_true rfl, Nat.le_of_ble_eq_true rfl⟩ dX11_weakest_31 (fun H locs hw => ?_)
        refine lv_aload_n fx.1 fx.2.1 dX11_weakest_34 rfl (lv_at hl 0 rfl) ?_
        refine lv_iload_n fx.1 fx.2.1 dX11_weakest_35 rfl (lv_at hl 2 rfl) ?_
        refine lv_bipush (v := 9) fx.1 fx.2.1 dX11_weakest_36 (by decide) ?_
        obtain ⟨v8, hf, hok⟩ := gOk_bind hok
        refine g_callV0 (κ := 11) fx hw (c_X11_of l X τ x0 x2 (9 : Int32) G7 h0 hf) lv_RX11_62 ⟨rfl, rfl⟩ rfl rfl h0 rfl hl.1 rfl ⟨Nat.le_of_ble_eq_true rfl, Nat.le_of_ble_eq_true rfl⟩ (Nat.le_of_ble_eq_true rfl) ⟨Nat.le_of_ble_eq_true rfl, Nat.le_of_ble_eq_true rfl⟩ dX11_weakest_38 (fun H locs hw => ?_)
        refine lv_isub fx.1 fx.2.1 dX11_weakest_41 ?_
        refine lv_aload_n fx.1 fx.2.1 dX11_weakest_42 rfl (lv_at hl 0 rfl) ?_
        refine lv_iload_n fx.1 fx.2.1 dX11_weakest_43 rfl (lv_at hl 1 rfl) ?_
        obtain ⟨v9, G10, hf, hok⟩ := gOk_bind2 hok
        refine g_callV0 (κ := 11) fx hw (c_X11_bearsOf l X τ n x0 x1 G7 h0 hf) lv_RX11_303 ⟨rfl, rfl⟩ rfl rfl h0 rfl hl.1 rfl ⟨Nat.le_of_ble_eq_true rfl, Nat.le_of_ble_eq_true rfl⟩ (Nat.le_of_ble_eq_true rfl) ⟨Nat.le_of_ble_eq_true rfl, Nat.le_of_ble_eq_true rfl⟩ dX11_weakest_44 (fun H locs hw => ?_)
        refine lv_aload_n fx.1 fx.2.1 dX11_weakest_47 rfl (lv_at hl 0 rfl) ?_
        refine lv_iload_n fx.1 fx.2.1 dX11_weakest_48 rfl (lv_at hl 1 rfl) ?_
        refine lv_bipush (v := 9) fx.1 fx.2.1 dX11_weakest_49 (by decide) ?_
        obtain ⟨v11, hf, hok⟩ := gOk_bind hok
        refine g_callV0 (κ := 11) fx hw (c_X11_of l X τ x0 x1 (9 : Int32) G10 h0 hf) lv_RX11_62 ⟨rfl, rfl⟩ rfl rfl h0 rfl hl.1 rfl ⟨Nat.le_of_ble_eq_true rfl, Nat.le_of_ble_eq_true rfl⟩ (Nat.le_of_ble_eq_true rfl) ⟨Nat.le_of_ble_eq_true rfl, Nat.le_of_ble_eq_true rfl⟩ dX11_weakest_51 (fun H locs hw => ?_)
        refine lv_isub fx.1 fx.2.1 dX11_weakest_54 ?_
        refine g_icmp_ge (tgt := 60) fx dX11_weakest_55 (by decide) hok (fun hok => ?_) (fun hok => ?_)
        · obtain ⟨v12, e_v12, hok⟩ := gOk_let hok
          refine lv_iinc (v := v12) (lv' := [(2, .int v12), (0, .ref x0), (1, .int x1)]) fx.1 fx.2.1 dX11_weakest_60 hl (k := 2) rfl (by rw [e_v12]; rfl) (by decide) rfl (fun ls hl => ?_)
          refine lv_goto (tgt := 9) fx.1 fx.2.1 dX11_weakest_63 (by decide) ?_
          exact hc x1 v12 G10 _ _ _  hw (lv_sub hl [1, 2, 0] rfl) (gOk_some hok)
        · exact w_X11_weakest_58 fx n x0 x2  h0  hw (lv_sub hl [0, 2] rfl) hok hc hx0
theorem w_l_X11_weakest_9 {X : gX} {τ : gτ} {p : Program} {l : Launch} {e : Env} {s : State} {m : MethodId} {args : Array Value} {below : List Frame} {meth : Method} {c : Code} (fx : gFx X p s m args meth c cX11_weakest 3 RX11) (n : Nat) (x0 : Nat) (h0 : gK τ x0 11) {Q : State → Prop} {K : ((Int32 × gG)) → Prop} (hx0 : ∀ (y1 : Int32) (G : gG) (H : Heap) (locs : List Loc) (ls : Array Slot), gHw X τ G H locs → lv_has ls 3 [(1, .int y1)] → K (y1, G) → W p l e rm_X11_weakest s m args below meth c H locs 0 0 Q (F0 m 66 ls [])) : ∀ (k : Nat) (x1 : Int32) (x2 : Int32) (G : gG) (H : Heap) (locs : List Loc) (ls : Array Slot), gHw X τ G H locs → lv_has ls 3 [(0, .ref x0), (1, .int x1), (2, .int x2)] → gOk (gIter (fun (q : Int32 × Int32 × gG) => b_X11_weakest_9 τ n x0 q.1 q.2.1 q.2.2) k (x1, x2, G)) K → W p l e rm_X11_weakest s m args below meth c H locs 0 0 Q (F0 m 9 ls []) := by
  intro k
  induction k with
  | zero =>
    intro x1 x2 G H locs ls hw hl hok
    exact gOk_iter0 hok
  | succ k hc =>
    intro x1 x2 G H locs ls hw hl hok
    exact w_b_X11_weakest_9 fx n x0 x1 x2 h0 hw hl (gOk_iter hok) hc hx0
set_option maxHeartbeats 4000000 in
set_option maxRecDepth 100000 in
theorem c_X11_weakest (l : Launch) (X : gX) (τ : gτ) (n : Nat) (x0 : Nat) (G : gG) (h0 : gK τ x0 11) {r : Int32} {G' : gG} (h : f_X11_weakest τ n x0 G = some (r, G')) : gM l X τ yX11_weakest cX11_weakest 3 (some .int) rm_X11_weakest [.ref x0] G (some (.int r)) G' := by
  refine g_body (by decide +kernel) (Nat.le_of_ble_eq_true rfl) ?_
  intro p e s m args below meth c ls fx hr hw hl
  have fx : gFx X p s m args meth c cX11_weakest 3 RX11 := fx
  have hl : lv_has ls 3 [(0, .ref x0)] := hl
  have hok : gOk (f_X11_weakest τ n x0 G) (fun q => q = (r, G')) := ⟨_, h, rfl⟩
  unfold f_X11_weakest at hok
  show W p l e rm_X11_weakest s m args below meth c s.heap [] 0 0 (MQ below (gQ X τ (some (.int r)) G') args s 0 0 (gFree X)) _
  refine lv_aload_n fx.1 fx.2.1 dX11_weakest_0 rfl (lv_at hl 0 rfl) ?_
  refine lv_iconst (v := 0) fx.1 fx.2.1 dX11_weakest_1 (by decide) ?_
  refine g_puti fx hw h0 lp_RX11_3 rfl rfl dX11_weakest_2 hok (fun G1 H locs hw hok => ?_)
  refine lv_iconst (v := (-1)) fx.1 fx.2.1 dX11_weakest_5 (by decide) ?_
  refine lv_istore_n (lv' := [(1, .int (-1 : Int32)), (0, .ref x0)]) fx.1 fx.2.1 dX11_weakest_6 rfl hl (by decide) rfl (fun ls hl => ?_)
  refine lv_iconst (v := 0) fx.1 fx.2.1 dX11_weakest_7 (by decide) ?_
  refine lv_istore_n (lv' := [(2, .int (0 : Int32)), (1, .int (-1 : Int32)), (0, .ref x0)]) fx.1 fx.2.1 dX11_weakest_8 rfl hl (by decide) rfl (fun ls hl => ?_)
  refine w_l_X11_weakest_9 fx n x0 h0 ?_ n (-1 : Int32) (0 : Int32) G1 _ _ _  hw (lv_sub hl [2, 1, 0] rfl) (gOk_bindK hok)
  intro z13 G14 H locs ls hw hl hok
  have hok : gOk (ρ := Int32 × gG) (some (z13, G14)) _ := hok
  refine lv_iload_n fx.1 fx.2.1 dX11_weakest_66 rfl (lv_at hl 0 rfl) ?_
  cases gOk_some hok
  exact g_iret fx hw hr dX11_weakest_67
theorem dX11_allLoads_0 : decode cX11_allLoads 0 = .ok (.iconst 0, 1) := by decide +kernel
theorem dX11_allLoads_1 : decode cX11_allLoads 1 = .ok (.istore_n 1, 1) := by decide +kernel
theorem dX11_allLoads_2 : decode cX11_allLoads 2 = .ok (.iconst 0, 1) := by decide +kernel
theorem dX11_allLoads_3 : decode cX11_allLoads 3 = .ok (.istore_n 2, 1) := by decide +kernel
theorem dX11_allLoads_4 : decode cX11_allLoads 4 = .ok (.iload_n 2, 1) := by decide +kernel
theorem dX11_allLoads_5 : decode cX11_allLoads 5 = .ok (.aload_n 0, 1) := by decide +kernel
theorem dX11_allLoads_6 : decode cX11_allLoads 6 = .ok (.invokevirtual 73, 3) := by decide +kernel
theorem dX11_allLoads_9 : decode cX11_allLoads 9 = .ok (.if_icmp .ge 19, 3) := by decide +kernel
theorem dX11_allLoads_12 : decode cX11_allLoads 12 = .ok (.iload_n 1, 1) := by decide +kernel
theorem dX11_allLoads_13 : decode cX11_allLoads 13 = .ok (.aload_n 0, 1) := by decide +kernel
theorem dX11_allLoads_14 : decode cX11_allLoads 14 = .ok (.iload_n 2, 1) := by decide +kernel
theorem dX11_allLoads_15 : decode cX11_allLoads 15 = .ok (.bipush 9, 2) := by decide +kernel
theorem dX11_allLoads_17 : decode cX11_allLoads 17 = .ok (.invokevirtual 62, 3) := by decide +kernel
theorem dX11_allLoads_20 : decode cX11_allLoads 20 = .ok (.iadd, 1) := by decide +kernel
theorem dX11_allLoads_21 : decode cX11_allLoads 21 = .ok (.istore_n 1, 1) := by decide +kernel
theorem dX11_allLoads_22 : decode cX11_allLoads 22 = .ok (.iinc 2 1, 3) := by decide +kernel
theorem dX11_allLoads_25 : decode cX11_allLoads 25 = .ok (.goto (-21), 3) := by decide +kernel
theorem dX11_allLoads_28 : decode cX11_allLoads 28 = .ok (.iload_n 1, 1) := by decide +kernel
theorem dX11_allLoads_29 : decode cX11_allLoads 29 = .ok (.ireturn, 1) := by decide +kernel
def rm_X11_allLoads : Room := { frames := 2, cells := 0, slots := 0, locals := 43 }
def b_X11_allLoads_4 (τ : gτ) (n : Nat) (x0 : Nat) (x1 : Int32) (x2 : Int32) (G : gG) : Option ((Int32 × Int32) ⊕ ((Int32))) :=
  (f_X11_ropes τ x0 G).bind fun v1 =>
  if v1 ≤ x2 then (some (.inr x1))
  else ((f_X11_of τ x0 x2 (9 : Int32) G).bind fun v2 =>
  gLet (x1 + v2) fun v3 =>
  gLet (x2 + 1) fun v4 =>
  some (.inl (v3, v4)))
def l_X11_allLoads_4 (τ : gτ) (n : Nat) (x0 : Nat) (x1 : Int32) (x2 : Int32) (G : gG) : Option ((Int32)) :=
  gIter (fun (q : Int32 × Int32) => b_X11_allLoads_4 τ n x0 q.1 q.2 G) n (x1, x2)
def f_X11_allLoads (τ : gτ) (n : Nat) (x0 : Nat) (G : gG) : Option (Int32) :=
  (l_X11_allLoads_4 τ n x0 (0 : Int32) (0 : Int32) G).bind fun q => gLet q fun z5 => 
  some (z5)
set_option maxHeartbeats 4000000 in
set_option maxRecDepth 100000 in
theorem w_b_X11_allLoads_4 {X : gX} {τ : gτ} {p : Program} {l : Launch} {e : Env} {s : State} {m : MethodId} {args : Array Value} {below : List Frame} {meth : Method} {c : Code} (fx : gFx X p s m args meth c cX11_allLoads 3 RX11) (n : Nat) (x0 : Nat) (x1 : Int32) (x2 : Int32) (h0 : gK τ x0 11) {Q : State → Prop} {K : ((Int32 × Int32) ⊕ ((Int32))) → Prop} {G : gG} {H : Heap} {locs : List Loc} {ls : Array Slot} (hw : gHw X τ G H locs) (hl : lv_has ls 3 [(0, .ref x0), (1, .int x1), (2, .int x2)]) (hok : gOk (b_X11_allLoads_4 τ n x0 x1 x2 G) K) (hc : ∀ (y1 : Int32) (y2 : Int32) (H : Heap) (locs : List Loc) (ls : Array Slot), gHw X τ G H locs → lv_has ls 3 [(0, .ref x0), (1, .int y1), (2, .int y2)] → K (.inl (y1, y2)) → W p l e rm_X11_allLoads s m args below meth c H locs 0 0 Q (F0 m 4 ls [])) (hx0 : ∀ (y1 : Int32) (H : Heap) (locs : List Loc) (ls : Array Slot), gHw X τ G H locs → lv_has ls 3 [(1, .int y1)] → K (.inr y1) → W p l e rm_X11_allLoads s m args below meth c H locs 0 0 Q (F0 m 28 ls [])) : W p l e rm_X11_allLoads s m args below meth c H locs 0 0 Q (F0 m 4 ls []) := by
  unfold b_X11_allLoads_4 at hok
  refine lv_iload_n fx.1 fx.2.1 dX11_allLoads_4 rfl (lv_at hl 2 rfl) ?_
  refine lv_aload_n fx.1 fx.2.1 dX11_allLoads_5 rfl (lv_at hl 0 rfl) ?_
  obtain ⟨v1, hf, hok⟩ := gOk_bind hok
  refine g_callV0 (κ := 11) fx hw (c_X11_ropes l X τ x0 G h0 hf) lv_RX11_73 ⟨rfl, rfl⟩ rfl rfl h0 rfl hl.1 rfl ⟨Nat.le_of_ble_eq_true rfl, Nat.le_of_ble_eq_true rfl⟩ (Nat.le_of_ble_eq_true rfl) ⟨Nat.le_of_ble_eq_true rfl, Nat.le_of_ble_eq_true rfl⟩ dX11_allLoads_6 (fun H locs hw => ?_)
  refine g_icmp_ge (tgt := 28) fx dX11_allLoads_9 (by decide) hok (fun hok => ?_) (fun hok => ?_)
  · exact hx0 x1  _ _ _  hw (lv_sub hl [1] rfl) (gOk_some hok)
  · refine lv_iload_n fx.1 fx.2.1 dX11_allLoads_12 rfl (lv_at hl 1 rfl) ?_
    refine lv_aload_n fx.1 fx.2.1 dX11_allLoads_13 rfl (lv_at hl 0 rfl) ?_
    refine lv_iload_n fx.1 fx.2.1 dX11_allLoads_14 rfl (lv_at hl 2 rfl) ?_
    refine lv_bipush (v := 9) fx.1 fx.2.1 dX11_allLoads_15 (by decide) ?_
    obtain ⟨v2, hf, hok⟩ := gOk_bind hok
    refine g_callV0 (κ := 11) fx hw (c_X11_of l X τ x0 x2 (9 : Int32) G h0 hf) lv_RX11_62 ⟨rfl, rfl⟩ rfl rfl h0 rfl hl.1 rfl ⟨Nat.le_of_ble_eq_true rfl, Nat.le_of_ble_eq_true rfl⟩ (Nat.le_of_ble_eq_true rfl) ⟨Nat.le_of_ble_eq_true rfl, Nat.le_of_ble_eq_true rfl⟩ dX11_allLoads_17 (fun H locs hw => ?_)
    refine lv_iadd fx.1 fx.2.1 dX11_allLoads_20 ?_
    refine g_leti hok (fun v3 hok => ?_)
    refine lv_istore_n (lv' := [(1, .int v3), (0, .ref x0), (2, .int x2)]) fx.1 fx.2.1 dX11_allLoads_21 rfl hl (by decide) rfl (fun ls hl => ?_)
    obtain ⟨v4, e_v4, hok⟩ := gOk_let hok
    refine lv_iinc (v := v4) (lv' := [(2, .int v4), (1, .int v3), (0, .ref x0)]) fx.1 fx.2.1 dX11_allLoads_22 hl (k := 2) rfl (by rw [e_v4]; rfl) (by decide) rfl (fun ls hl => ?_)
    refine lv_goto (tgt := 4) fx.1 fx.2.1 dX11_allLoads_25 (by decide) ?_
    exact hc v3 v4  _ _ _  hw (lv_sub hl [2, 1, 0] rfl) (gOk_some hok)
theorem w_l_X11_allLoads_4 {X : gX} {τ : gτ} {p : Program} {l : Launch} {e : Env} {s : State} {m : MethodId} {args : Array Value} {below : List Frame} {meth : Method} {c : Code} (fx : gFx X p s m args meth c cX11_allLoads 3 RX11) (n : Nat) (x0 : Nat) (h0 : gK τ x0 11) (G : gG) {Q : State → Prop} {K : ((Int32)) → Prop} (hx0 : ∀ (y1 : Int32) (H : Heap) (locs : List Loc) (ls : Array Slot), gHw X τ G H locs → lv_has ls 3 [(1, .int y1)] → K y1 → W p l e rm_X11_allLoads s m args below meth c H locs 0 0 Q (F0 m 28 ls [])) : ∀ (k : Nat) (x1 : Int32) (x2 : Int32) (H : Heap) (locs : List Loc) (ls : Array Slot), gHw X τ G H locs → lv_has ls 3 [(0, .ref x0), (1, .int x1), (2, .int x2)] → gOk (gIter (fun (q : Int32 × Int32) => b_X11_allLoads_4 τ n x0 q.1 q.2 G) k (x1, x2)) K → W p l e rm_X11_allLoads s m args below meth c H locs 0 0 Q (F0 m 4 ls []) := by
  intro k
  induction k with
  | zero =>
    intro x1 x2  H locs ls hw hl hok
    exact gOk_iter0 hok
  | succ k hc =>
    intro x1 x2  H locs ls hw hl hok
    exact w_b_X11_allLoads_4 fx n x0 x1 x2 h0 hw hl (gOk_iter hok) hc hx0
set_option maxHeartbeats 4000000 in
set_option maxRecDepth 100000 in
theorem c_X11_allLoads (l : Launch) (X : gX) (τ : gτ) (n : Nat) (x0 : Nat) (G : gG) (h0 : gK τ x0 11) {r : Int32}  (h : f_X11_allLoads τ n x0 G = some r) : gM l X τ yX11_allLoads cX11_allLoads 3 (some .int) rm_X11_allLoads [.ref x0] G (some (.int r)) G := by
  refine g_body (by decide +kernel) (Nat.le_of_ble_eq_true rfl) ?_
  intro p e s m args below meth c ls fx hr hw hl
  have fx : gFx X p s m args meth c cX11_allLoads 3 RX11 := fx
  have hl : lv_has ls 3 [(0, .ref x0)] := hl
  have hok : gOk (f_X11_allLoads τ n x0 G) (fun q => q = r) := ⟨_, h, rfl⟩
  unfold f_X11_allLoads at hok
  show W p l e rm_X11_allLoads s m args below meth c s.heap [] 0 0 (MQ below (gQ X τ (some (.int r)) G) args s 0 0 (gFree X)) _
  refine lv_iconst (v := 0) fx.1 fx.2.1 dX11_allLoads_0 (by decide) ?_
  refine lv_istore_n (lv' := [(1, .int (0 : Int32)), (0, .ref x0)]) fx.1 fx.2.1 dX11_allLoads_1 rfl hl (by decide) rfl (fun ls hl => ?_)
  refine lv_iconst (v := 0) fx.1 fx.2.1 dX11_allLoads_2 (by decide) ?_
  refine lv_istore_n (lv' := [(2, .int (0 : Int32)), (1, .int (0 : Int32)), (0, .ref x0)]) fx.1 fx.2.1 dX11_allLoads_3 rfl hl (by decide) rfl (fun ls hl => ?_)
  refine w_l_X11_allLoads_4 fx n x0 h0 G ?_ n (0 : Int32) (0 : Int32)  _ _ _  hw (lv_sub hl [2, 1, 0] rfl) (gOk_bindK hok)
  intro z5  H locs ls hw hl hok
  have hok : gOk (ρ := Int32) (some (z5)) _ := hok
  refine lv_iload_n fx.1 fx.2.1 dX11_allLoads_28 rfl (lv_at hl 0 rfl) ?_
  cases gOk_some hok
  exact g_iret fx hw hr dX11_allLoads_29
theorem dX11_bearsAll_0 : decode cX11_bearsAll 0 = .ok (.iconst 0, 1) := by decide +kernel
theorem dX11_bearsAll_1 : decode cX11_bearsAll 1 = .ok (.istore_n 2, 1) := by decide +kernel
theorem dX11_bearsAll_2 : decode cX11_bearsAll 2 = .ok (.iconst 0, 1) := by decide +kernel
theorem dX11_bearsAll_3 : decode cX11_bearsAll 3 = .ok (.istore_n 3, 1) := by decide +kernel
theorem dX11_bearsAll_4 : decode cX11_bearsAll 4 = .ok (.iload_n 3, 1) := by decide +kernel
theorem dX11_bearsAll_5 : decode cX11_bearsAll 5 = .ok (.aload_n 0, 1) := by decide +kernel
theorem dX11_bearsAll_6 : decode cX11_bearsAll 6 = .ok (.invokevirtual 73, 3) := by decide +kernel
theorem dX11_bearsAll_9 : decode cX11_bearsAll 9 = .ok (.if_icmp .ge 29, 3) := by decide +kernel
theorem dX11_bearsAll_12 : decode cX11_bearsAll 12 = .ok (.iload_n 2, 1) := by decide +kernel
theorem dX11_bearsAll_13 : decode cX11_bearsAll 13 = .ok (.iload_n 1, 1) := by decide +kernel
theorem dX11_bearsAll_14 : decode cX11_bearsAll 14 = .ok (.iload_n 3, 1) := by decide +kernel
theorem dX11_bearsAll_15 : decode cX11_bearsAll 15 = .ok (.invokestatic 312, 3) := by decide +kernel
theorem dX11_bearsAll_18 : decode cX11_bearsAll 18 = .ok (.ifCond .eq 11, 3) := by decide +kernel
theorem dX11_bearsAll_21 : decode cX11_bearsAll 21 = .ok (.aload_n 0, 1) := by decide +kernel
theorem dX11_bearsAll_22 : decode cX11_bearsAll 22 = .ok (.iload_n 3, 1) := by decide +kernel
theorem dX11_bearsAll_23 : decode cX11_bearsAll 23 = .ok (.invokevirtual 303, 3) := by decide +kernel
theorem dX11_bearsAll_26 : decode cX11_bearsAll 26 = .ok (.goto 4, 3) := by decide +kernel
theorem dX11_bearsAll_29 : decode cX11_bearsAll 29 = .ok (.iconst 0, 1) := by decide +kernel
theorem dX11_bearsAll_30 : decode cX11_bearsAll 30 = .ok (.iadd, 1) := by decide +kernel
theorem dX11_bearsAll_31 : decode cX11_bearsAll 31 = .ok (.istore_n 2, 1) := by decide +kernel
theorem dX11_bearsAll_32 : decode cX11_bearsAll 32 = .ok (.iinc 3 1, 3) := by decide +kernel
theorem dX11_bearsAll_35 : decode cX11_bearsAll 35 = .ok (.goto (-31), 3) := by decide +kernel
theorem dX11_bearsAll_38 : decode cX11_bearsAll 38 = .ok (.iload_n 2, 1) := by decide +kernel
theorem dX11_bearsAll_39 : decode cX11_bearsAll 39 = .ok (.ireturn, 1) := by decide +kernel
def rm_X11_bearsAll : Room := { frames := 8, cells := 0, slots := 0, locals := 185 }
def k_X11_bearsAll_30 (τ : gτ) (n : Nat) (x0 : Nat) (x1 : Int32) (x3 : Int32) (s0 : Int32) (s1 : Int32) (G : gG) : Option ((Int32 × Int32 × gG) ⊕ ((Int32 × gG))) :=
  gLet (s0 + s1) fun v3 =>
  gLet (x3 + 1) fun v4 =>
  some (.inl (v3, v4, G))
def b_X11_bearsAll_4 (τ : gτ) (n : Nat) (x0 : Nat) (x1 : Int32) (x2 : Int32) (x3 : Int32) (G : gG) : Option ((Int32 × Int32 × gG) ⊕ ((Int32 × gG))) :=
  (f_X11_ropes τ x0 G).bind fun v1 =>
  if v1 ≤ x3 then (some (.inr (x2, G)))
  else ((f_X11_has x1 x3).bind fun v2 =>
  if v2 = 0 then (k_X11_bearsAll_30 τ n x0 x1 x3 x2 (0 : Int32) G)
  else (gBind2 (f_X11_bearsOf τ n x0 x3 G) fun v5 G6 =>
  k_X11_bearsAll_30 τ n x0 x1 x3 x2 v5 G6))
def l_X11_bearsAll_4 (τ : gτ) (n : Nat) (x0 : Nat) (x1 : Int32) (x2 : Int32) (x3 : Int32) (G : gG) : Option ((Int32 × gG)) :=
  gIter (fun (q : Int32 × Int32 × gG) => b_X11_bearsAll_4 τ n x0 x1 q.1 q.2.1 q.2.2) n (x2, x3, G)
def f_X11_bearsAll (τ : gτ) (n : Nat) (x0 : Nat) (x1 : Int32) (G : gG) : Option (Int32 × gG) :=
  (l_X11_bearsAll_4 τ n x0 x1 (0 : Int32) (0 : Int32) G).bind fun q => gLet q.1 fun z7 => gLet q.2 fun G8 => 
  some (z7, G8)
set_option maxHeartbeats 4000000 in
set_option maxRecDepth 100000 in
theorem w_X11_bearsAll_30 {X : gX} {τ : gτ} {p : Program} {l : Launch} {e : Env} {s : State} {m : MethodId} {args : Array Value} {below : List Frame} {meth : Method} {c : Code} (fx : gFx X p s m args meth c cX11_bearsAll 4 RX11) (n : Nat) (x0 : Nat) (x1 : Int32) (x3 : Int32) (s0 : Int32) (s1 : Int32) (h0 : gK τ x0 11)  {Q : State → Prop} {K : ((Int32 × Int32 × gG) ⊕ ((Int32 × gG))) → Prop} {G : gG} {H : Heap} {locs : List Loc} {ls : Array Slot} (hw : gHw X τ G H locs) (hl : lv_has ls 4 [(0, .ref x0), (1, .int x1), (3, .int x3)]) (hok : gOk (k_X11_bearsAll_30 τ n x0 x1 x3 s0 s1 G) K) (hc : ∀ (y2 : Int32) (y3 : Int32) (G : gG) (H : Heap) (locs : List Loc) (ls : Array Slot), gHw X τ G H locs → lv_has ls 4 [(0, .ref x0), (1, .int x1), (2, .int y2), (3, .int y3)] → K (.inl (y2, y3, G)) → W p l e rm_X11_bearsAll s m args below meth c H locs 0 0 Q (F0 m 4 ls [])) (hx0 : ∀ (y2 : Int32) (G : gG) (H : Heap) (locs : List Loc) (ls : Array Slot), gHw X τ G H locs → lv_has ls 4 [(2, .int y2)] → K (.inr (y2, G)) → W p l e rm_X11_bearsAll s m args below meth c H locs 0 0 Q (F0 m 38 ls [])) : W p l e rm_X11_bearsAll s m args below meth c H locs 0 0 Q (F0 m 30 ls [.int s1, .int s0]) := by
  unfold k_X11_bearsAll_30 at hok
  refine lv_iadd fx.1 fx.2.1 dX11_bearsAll_30 ?_
  refine g_leti hok (fun v3 hok => ?_)
  refine lv_istore_n (lv' := [(2, .int v3), (0, .ref x0), (1, .int x1), (3, .int x3)]) fx.1 fx.2.1 dX11_bearsAll_31 rfl hl (by decide) rfl (fun ls hl => ?_)
  obtain ⟨v4, e_v4, hok⟩ := gOk_let hok
  refine lv_iinc (v := v4) (lv' := [(3, .int v4), (2, .int v3), (0, .ref x0), (1, .int x1)]) fx.1 fx.2.1 dX11_bearsAll_32 hl (k := 3) rfl (by rw [e_v4]; rfl) (by decide) rfl (fun ls hl => ?_)
  refine lv_goto (tgt := 4) fx.1 fx.2.1 dX11_bearsAll_35 (by decide) ?_
  exact hc v3 v4 G _ _ _  hw (lv_sub hl [2, 3, 1, 0] rfl) (gOk_some hok)
set_option maxHeartbeats 4000000 in
set_option maxRecDepth 100000 in
theorem w_b_X11_bearsAll_4 {X : gX} {τ : gτ} {p : Program} {l : Launch} {e : Env} {s : State} {m : MethodId} {args : Array Value} {below : List Frame} {meth : Method} {c : Code} (fx : gFx X p s m args meth c cX11_bearsAll 4 RX11) (n : Nat) (x0 : Nat) (x1 : Int32) (x2 : Int32) (x3 : Int32) (h0 : gK τ x0 11) {Q : State → Prop} {K : ((Int32 × Int32 × gG) ⊕ ((Int32 × gG))) → Prop} {G : gG} {H : Heap} {locs : List Loc} {ls : Array Slot} (hw : gHw X τ G H locs) (hl : lv_has ls 4 [(0, .ref x0), (1, .int x1), (2, .int x2), (3, .int x3)]) (hok : gOk (b_X11_bearsAll_4 τ n x0 x1 x2 x3 G) K) (hc : ∀ (y2 : Int32) (y3 : Int32) (G : gG) (H : Heap) (locs : List Loc) (ls : Array Slot), gHw X τ G H locs → lv_has ls 4 [(0, .ref x0), (1, .int x1), (2, .int y2), (3, .int y3)] → K (.inl (y2, y3, G)) → W p l e rm_X11_bearsAll s m args below meth c H locs 0 0 Q (F0 m 4 ls [])) (hx0 : ∀ (y2 : Int32) (G : gG) (H : Heap) (locs : List Loc) (ls : Array Slot), gHw X τ G H locs → lv_has ls 4 [(2, .int y2)] → K (.inr (y2, G)) → W p l e rm_X11_bearsAll s m args below meth c H locs 0 0 Q (F0 m 38 ls [])) : W p l e rm_X11_bearsAll s m args below meth c H locs 0 0 Q (F0 m 4 ls []) := by
  unfold b_X11_bearsAll_4 at hok
  refine lv_iload_n fx.1 fx.2.1 dX11_bearsAll_4 rfl (lv_at hl 3 rfl) ?_
  refine lv_aload_n fx.1 fx.2.1 dX11_bearsAll_5 rfl (lv_at hl 0 rfl) ?_
  obtain ⟨v1, hf, hok⟩ := gOk_bind hok
  refine g_callV0 (κ := 11) fx hw (c_X11_ropes l X τ x0 G h0 hf) lv_RX11_73 ⟨rfl, rfl⟩ rfl rfl h0 rfl hl.1 rfl ⟨Nat.le_of_ble_eq_true rfl, Nat.le_of_ble_eq_true rfl⟩ (Nat.le_of_ble_eq_true rfl) ⟨Nat.le_of_ble_eq_true rfl, Nat.le_of_ble_eq_true rfl⟩ dX11_bearsAll_6 (fun H locs hw => ?_)
  refine g_icmp_ge (tgt := 38) fx dX11_bearsAll_9 (by decide) hok (fun hok => ?_) (fun hok => ?_)
  · exact hx0 x2 G _ _ _  hw (lv_sub hl [2] rfl) (gOk_some hok)
  · refine lv_iload_n fx.1 fx.2.1 dX11_bearsAll_12 rfl (lv_at hl 2 rfl) ?_
    refine lv_iload_n fx.1 fx.2.1 dX11_bearsAll_13 rfl (lv_at hl 1 rfl) ?_
    refine lv_iload_n fx.1 fx.2.1 dX11_bearsAll_14 rfl (lv_at hl 3 rfl) ?_
    obtain ⟨v2, hf, hok⟩ := gOk_bind hok
    refine g_callS0 fx hw (c_X11_has l X τ x1 x3 G  hf) ls_RX11_312 ⟨rfl, rfl⟩ rfl hl.1 rfl ⟨Nat.le_of_ble_eq_true rfl, Nat.le_of_ble_eq_true rfl⟩ (Nat.le_of_ble_eq_true rfl) ⟨Nat.le_of_ble_eq_true rfl, Nat.le_of_ble_eq_true rfl⟩ dX11_bearsAll_15 (fun H locs hw => ?_)
    refine g_if_eq (tgt := 29) fx dX11_bearsAll_18 (by decide) hok (fun hok => ?_) (fun hok => ?_)
    · refine lv_iconst (v := 0) fx.1 fx.2.1 dX11_bearsAll_29 (by decide) ?_
      exact w_X11_bearsAll_30 fx n x0 x1 x3 x2 (0 : Int32) h0  hw (lv_sub hl [0, 1, 3] rfl) hok hc hx0
    · refine lv_aload_n fx.1 fx.2.1 dX11_bearsAll_21 rfl (lv_at hl 0 rfl) ?_
      refine lv_iload_n fx.1 fx.2.1 dX11_bearsAll_22 rfl (lv_at hl 3 rfl) ?_
      obtain ⟨v5, G6, hf, hok⟩ := gOk_bind2 hok
      refine g_callV0 (κ := 11) fx hw (c_X11_bearsOf l X τ n x0 x3 G h0 hf) lv_RX11_303 ⟨rfl, rfl⟩ rfl rfl h0 rfl hl.1 rfl ⟨Nat.le_of_ble_eq_true rfl, Nat.le_of_ble_eq_true rfl⟩ (Nat.le_of_ble_eq_true rfl) ⟨Nat.le_of_ble_eq_true rfl, Nat.le_of_ble_eq_true rfl⟩ dX11_bearsAll_23 (fun H locs hw => ?_)
      refine lv_goto (tgt := 30) fx.1 fx.2.1 dX11_bearsAll_26 (by decide) ?_
      exact w_X11_bearsAll_30 fx n x0 x1 x3 x2 v5 h0  hw (lv_sub hl [0, 1, 3] rfl) hok hc hx0
theorem w_l_X11_bearsAll_4 {X : gX} {τ : gτ} {p : Program} {l : Launch} {e : Env} {s : State} {m : MethodId} {args : Array Value} {below : List Frame} {meth : Method} {c : Code} (fx : gFx X p s m args meth c cX11_bearsAll 4 RX11) (n : Nat) (x0 : Nat) (x1 : Int32) (h0 : gK τ x0 11) {Q : State → Prop} {K : ((Int32 × gG)) → Prop} (hx0 : ∀ (y2 : Int32) (G : gG) (H : Heap) (locs : List Loc) (ls : Array Slot), gHw X τ G H locs → lv_has ls 4 [(2, .int y2)] → K (y2, G) → W p l e rm_X11_bearsAll s m args below meth c H locs 0 0 Q (F0 m 38 ls [])) : ∀ (k : Nat) (x2 : Int32) (x3 : Int32) (G : gG) (H : Heap) (locs : List Loc) (ls : Array Slot), gHw X τ G H locs → lv_has ls 4 [(0, .ref x0), (1, .int x1), (2, .int x2), (3, .int x3)] → gOk (gIter (fun (q : Int32 × Int32 × gG) => b_X11_bearsAll_4 τ n x0 x1 q.1 q.2.1 q.2.2) k (x2, x3, G)) K → W p l e rm_X11_bearsAll s m args below meth c H locs 0 0 Q (F0 m 4 ls []) := by
  intro k
  induction k with
  | zero =>
    intro x2 x3 G H locs ls hw hl hok
    exact gOk_iter0 hok
  | succ k hc =>
    intro x2 x3 G H locs ls hw hl hok
    exact w_b_X11_bearsAll_4 fx n x0 x1 x2 x3 h0 hw hl (gOk_iter hok) hc hx0
set_option maxHeartbeats 4000000 in
set_option maxRecDepth 100000 in
theorem c_X11_bearsAll (l : Launch) (X : gX) (τ : gτ) (n : Nat) (x0 : Nat) (x1 : Int32) (G : gG) (h0 : gK τ x0 11) {r : Int32} {G' : gG} (h : f_X11_bearsAll τ n x0 x1 G = some (r, G')) : gM l X τ yX11_bearsAll cX11_bearsAll 4 (some .int) rm_X11_bearsAll [.ref x0, .int x1] G (some (.int r)) G' := by
  refine g_body (by decide +kernel) (Nat.le_of_ble_eq_true rfl) ?_
  intro p e s m args below meth c ls fx hr hw hl
  have fx : gFx X p s m args meth c cX11_bearsAll 4 RX11 := fx
  have hl : lv_has ls 4 [(0, .ref x0), (1, .int x1)] := hl
  have hok : gOk (f_X11_bearsAll τ n x0 x1 G) (fun q => q = (r, G')) := ⟨_, h, rfl⟩
  unfold f_X11_bearsAll at hok
  show W p l e rm_X11_bearsAll s m args below meth c s.heap [] 0 0 (MQ below (gQ X τ (some (.int r)) G') args s 0 0 (gFree X)) _
  refine lv_iconst (v := 0) fx.1 fx.2.1 dX11_bearsAll_0 (by decide) ?_
  refine lv_istore_n (lv' := [(2, .int (0 : Int32)), (0, .ref x0), (1, .int x1)]) fx.1 fx.2.1 dX11_bearsAll_1 rfl hl (by decide) rfl (fun ls hl => ?_)
  refine lv_iconst (v := 0) fx.1 fx.2.1 dX11_bearsAll_2 (by decide) ?_
  refine lv_istore_n (lv' := [(3, .int (0 : Int32)), (2, .int (0 : Int32)), (0, .ref x0), (1, .int x1)]) fx.1 fx.2.1 dX11_bearsAll_3 rfl hl (by decide) rfl (fun ls hl => ?_)
  refine w_l_X11_bearsAll_4 fx n x0 x1 h0 ?_ n (0 : Int32) (0 : Int32) G _ _ _  hw (lv_sub hl [2, 3, 1, 0] rfl) (gOk_bindK hok)
  intro z7 G8 H locs ls hw hl hok
  have hok : gOk (ρ := Int32 × gG) (some (z7, G8)) _ := hok
  refine lv_iload_n fx.1 fx.2.1 dX11_bearsAll_38 rfl (lv_at hl 0 rfl) ?_
  cases gOk_some hok
  exact g_iret fx hw hr dX11_bearsAll_39
theorem dX11_wholeOnes_0 : decode cX11_wholeOnes 0 = .ok (.iconst 0, 1) := by decide +kernel
theorem dX11_wholeOnes_1 : decode cX11_wholeOnes 1 = .ok (.istore_n 1, 1) := by decide +kernel
theorem dX11_wholeOnes_2 : decode cX11_wholeOnes 2 = .ok (.iconst 0, 1) := by decide +kernel
theorem dX11_wholeOnes_3 : decode cX11_wholeOnes 3 = .ok (.istore_n 2, 1) := by decide +kernel
theorem dX11_wholeOnes_4 : decode cX11_wholeOnes 4 = .ok (.iload_n 2, 1) := by decide +kernel
theorem dX11_wholeOnes_5 : decode cX11_wholeOnes 5 = .ok (.aload_n 0, 1) := by decide +kernel
theorem dX11_wholeOnes_6 : decode cX11_wholeOnes 6 = .ok (.invokevirtual 73, 3) := by decide +kernel
theorem dX11_wholeOnes_9 : decode cX11_wholeOnes 9 = .ok (.if_icmp .ge 27, 3) := by decide +kernel
theorem dX11_wholeOnes_12 : decode cX11_wholeOnes 12 = .ok (.iload_n 1, 1) := by decide +kernel
theorem dX11_wholeOnes_13 : decode cX11_wholeOnes 13 = .ok (.aload_n 0, 1) := by decide +kernel
theorem dX11_wholeOnes_14 : decode cX11_wholeOnes 14 = .ok (.iload_n 2, 1) := by decide +kernel
theorem dX11_wholeOnes_15 : decode cX11_wholeOnes 15 = .ok (.invokevirtual 146, 3) := by decide +kernel
theorem dX11_wholeOnes_18 : decode cX11_wholeOnes 18 = .ok (.ifCond .eq 9, 3) := by decide +kernel
theorem dX11_wholeOnes_21 : decode cX11_wholeOnes 21 = .ok (.iconst 1, 1) := by decide +kernel
theorem dX11_wholeOnes_22 : decode cX11_wholeOnes 22 = .ok (.iload_n 2, 1) := by decide +kernel
theorem dX11_wholeOnes_23 : decode cX11_wholeOnes 23 = .ok (.ishl, 1) := by decide +kernel
theorem dX11_wholeOnes_24 : decode cX11_wholeOnes 24 = .ok (.goto 4, 3) := by decide +kernel
theorem dX11_wholeOnes_27 : decode cX11_wholeOnes 27 = .ok (.iconst 0, 1) := by decide +kernel
theorem dX11_wholeOnes_28 : decode cX11_wholeOnes 28 = .ok (.ior, 1) := by decide +kernel
theorem dX11_wholeOnes_29 : decode cX11_wholeOnes 29 = .ok (.istore_n 1, 1) := by decide +kernel
theorem dX11_wholeOnes_30 : decode cX11_wholeOnes 30 = .ok (.iinc 2 1, 3) := by decide +kernel
theorem dX11_wholeOnes_33 : decode cX11_wholeOnes 33 = .ok (.goto (-29), 3) := by decide +kernel
theorem dX11_wholeOnes_36 : decode cX11_wholeOnes 36 = .ok (.iload_n 1, 1) := by decide +kernel
theorem dX11_wholeOnes_37 : decode cX11_wholeOnes 37 = .ok (.ireturn, 1) := by decide +kernel
def rm_X11_wholeOnes : Room := { frames := 3, cells := 0, slots := 0, locals := 64 }
def k_X11_wholeOnes_28 (τ : gτ) (n : Nat) (x0 : Nat) (x2 : Int32) (s0 : Int32) (s1 : Int32) (G : gG) : Option ((Int32 × Int32) ⊕ ((Int32))) :=
  gLet (s0 ||| s1) fun v3 =>
  gLet (x2 + 1) fun v4 =>
  some (.inl (v3, v4))
def b_X11_wholeOnes_4 (τ : gτ) (n : Nat) (x0 : Nat) (x1 : Int32) (x2 : Int32) (G : gG) : Option ((Int32 × Int32) ⊕ ((Int32))) :=
  (f_X11_ropes τ x0 G).bind fun v1 =>
  if v1 ≤ x2 then (some (.inr x1))
  else ((f_X11_isWhole τ x0 x2 G).bind fun v2 =>
  if v2 = 0 then (k_X11_wholeOnes_28 τ n x0 x2 x1 (0 : Int32) G)
  else (k_X11_wholeOnes_28 τ n x0 x2 x1 ((1 : Int32) <<< (x2 &&& 31)) G))
def l_X11_wholeOnes_4 (τ : gτ) (n : Nat) (x0 : Nat) (x1 : Int32) (x2 : Int32) (G : gG) : Option ((Int32)) :=
  gIter (fun (q : Int32 × Int32) => b_X11_wholeOnes_4 τ n x0 q.1 q.2 G) n (x1, x2)
def f_X11_wholeOnes (τ : gτ) (n : Nat) (x0 : Nat) (G : gG) : Option (Int32) :=
  (l_X11_wholeOnes_4 τ n x0 (0 : Int32) (0 : Int32) G).bind fun q => gLet q fun z5 => 
  some (z5)
set_option maxHeartbeats 4000000 in
set_option maxRecDepth 100000 in
theorem w_X11_wholeOnes_28 {X : gX} {τ : gτ} {p : Program} {l : Launch} {e : Env} {s : State} {m : MethodId} {args : Array Value} {below : List Frame} {meth : Method} {c : Code} (fx : gFx X p s m args meth c cX11_wholeOnes 3 RX11) (n : Nat) (x0 : Nat) (x2 : Int32) (s0 : Int32) (s1 : Int32) (h0 : gK τ x0 11)  {Q : State → Prop} {K : ((Int32 × Int32) ⊕ ((Int32))) → Prop} {G : gG} {H : Heap} {locs : List Loc} {ls : Array Slot} (hw : gHw X τ G H locs) (hl : lv_has ls 3 [(0, .ref x0), (2, .int x2)]) (hok : gOk (k_X11_wholeOnes_28 τ n x0 x2 s0 s1 G) K) (hc : ∀ (y1 : Int32) (y2 : Int32) (H : Heap) (locs : List Loc) (ls : Array Slot), gHw X τ G H locs → lv_has ls 3 [(0, .ref x0), (1, .int y1), (2, .int y2)] → K (.inl (y1, y2)) → W p l e rm_X11_wholeOnes s m args below meth c H locs 0 0 Q (F0 m 4 ls [])) (hx0 : ∀ (y1 : Int32) (H : Heap) (locs : List Loc) (ls : Array Slot), gHw X τ G H locs → lv_has ls 3 [(1, .int y1)] → K (.inr y1) → W p l e rm_X11_wholeOnes s m args below meth c H locs 0 0 Q (F0 m 36 ls [])) : W p l e rm_X11_wholeOnes s m args below meth c H locs 0 0 Q (F0 m 28 ls [.int s1, .int s0]) := by
  unfold k_X11_wholeOnes_28 at hok
  refine lv_ior fx.1 fx.2.1 dX11_wholeOnes_28 ?_
  refine g_leti hok (fun v3 hok => ?_)
  refine lv_istore_n (lv' := [(1, .int v3), (0, .ref x0), (2, .int x2)]) fx.1 fx.2.1 dX11_wholeOnes_29 rfl hl (by decide) rfl (fun ls hl => ?_)
  obtain ⟨v4, e_v4, hok⟩ := gOk_let hok
  refine lv_iinc (v := v4) (lv' := [(2, .int v4), (1, .int v3), (0, .ref x0)]) fx.1 fx.2.1 dX11_wholeOnes_30 hl (k := 2) rfl (by rw [e_v4]; rfl) (by decide) rfl (fun ls hl => ?_)
  refine lv_goto (tgt := 4) fx.1 fx.2.1 dX11_wholeOnes_33 (by decide) ?_
  exact hc v3 v4  _ _ _  hw (lv_sub hl [2, 1, 0] rfl) (gOk_some hok)
set_option maxHeartbeats 4000000 in
set_option maxRecDepth 100000 in
theorem w_b_X11_wholeOnes_4 {X : gX} {τ : gτ} {p : Program} {l : Launch} {e : Env} {s : State} {m : MethodId} {args : Array Value} {below : List Frame} {meth : Method} {c : Code} (fx : gFx X p s m args meth c cX11_wholeOnes 3 RX11) (n : Nat) (x0 : Nat) (x1 : Int32) (x2 : Int32) (h0 : gK τ x0 11) {Q : State → Prop} {K : ((Int32 × Int32) ⊕ ((Int32))) → Prop} {G : gG} {H : Heap} {locs : List Loc} {ls : Array Slot} (hw : gHw X τ G H locs) (hl : lv_has ls 3 [(0, .ref x0), (1, .int x1), (2, .int x2)]) (hok : gOk (b_X11_wholeOnes_4 τ n x0 x1 x2 G) K) (hc : ∀ (y1 : Int32) (y2 : Int32) (H : Heap) (locs : List Loc) (ls : Array Slot), gHw X τ G H locs → lv_has ls 3 [(0, .ref x0), (1, .int y1), (2, .int y2)] → K (.inl (y1, y2)) → W p l e rm_X11_wholeOnes s m args below meth c H locs 0 0 Q (F0 m 4 ls [])) (hx0 : ∀ (y1 : Int32) (H : Heap) (locs : List Loc) (ls : Array Slot), gHw X τ G H locs → lv_has ls 3 [(1, .int y1)] → K (.inr y1) → W p l e rm_X11_wholeOnes s m args below meth c H locs 0 0 Q (F0 m 36 ls [])) : W p l e rm_X11_wholeOnes s m args below meth c H locs 0 0 Q (F0 m 4 ls []) := by
  unfold b_X11_wholeOnes_4 at hok
  refine lv_iload_n fx.1 fx.2.1 dX11_wholeOnes_4 rfl (lv_at hl 2 rfl) ?_
  refine lv_aload_n fx.1 fx.2.1 dX11_wholeOnes_5 rfl (lv_at hl 0 rfl) ?_
  obtain ⟨v1, hf, hok⟩ := gOk_bind hok
  refine g_callV0 (κ := 11) fx hw (c_X11_ropes l X τ x0 G h0 hf) lv_RX11_73 ⟨rfl, rfl⟩ rfl rfl h0 rfl hl.1 rfl ⟨Nat.le_of_ble_eq_true rfl, Nat.le_of_ble_eq_true rfl⟩ (Nat.le_of_ble_eq_true rfl) ⟨Nat.le_of_ble_eq_true rfl, Nat.le_of_ble_eq_true rfl⟩ dX11_wholeOnes_6 (fun H locs hw => ?_)
  refine g_icmp_ge (tgt := 36) fx dX11_wholeOnes_9 (by decide) hok (fun hok => ?_) (fun hok => ?_)
  · exact hx0 x1  _ _ _  hw (lv_sub hl [1] rfl) (gOk_some hok)
  · refine lv_iload_n fx.1 fx.2.1 dX11_wholeOnes_12 rfl (lv_at hl 1 rfl) ?_
    refine lv_aload_n fx.1 fx.2.1 dX11_wholeOnes_13 rfl (lv_at hl 0 rfl) ?_
    refine lv_iload_n fx.1 fx.2.1 dX11_wholeOnes_14 rfl (lv_at hl 2 rfl) ?_
    obtain ⟨v2, hf, hok⟩ := gOk_bind hok
    refine g_callV0 (κ := 11) fx hw (c_X11_isWhole l X τ x0 x2 G h0 hf) lv_RX11_146 ⟨rfl, rfl⟩ rfl rfl h0 rfl hl.1 rfl ⟨Nat.le_of_ble_eq_true rfl, Nat.le_of_ble_eq_true rfl⟩ (Nat.le_of_ble_eq_true rfl) ⟨Nat.le_of_ble_eq_true rfl, Nat.le_of_ble_eq_true rfl⟩ dX11_wholeOnes_15 (fun H locs hw => ?_)
    refine g_if_eq (tgt := 27) fx dX11_wholeOnes_18 (by decide) hok (fun hok => ?_) (fun hok => ?_)
    · refine lv_iconst (v := 0) fx.1 fx.2.1 dX11_wholeOnes_27 (by decide) ?_
      exact w_X11_wholeOnes_28 fx n x0 x2 x1 (0 : Int32) h0  hw (lv_sub hl [0, 2] rfl) hok hc hx0
    · refine lv_iconst (v := 1) fx.1 fx.2.1 dX11_wholeOnes_21 (by decide) ?_
      refine lv_iload_n fx.1 fx.2.1 dX11_wholeOnes_22 rfl (lv_at hl 2 rfl) ?_
      refine lv_ishl fx.1 fx.2.1 dX11_wholeOnes_23 ?_
      refine lv_goto (tgt := 28) fx.1 fx.2.1 dX11_wholeOnes_24 (by decide) ?_
      exact w_X11_wholeOnes_28 fx n x0 x2 x1 ((1 : Int32) <<< (x2 &&& 31)) h0  hw (lv_sub hl [0, 2] rfl) hok hc hx0
theorem w_l_X11_wholeOnes_4 {X : gX} {τ : gτ} {p : Program} {l : Launch} {e : Env} {s : State} {m : MethodId} {args : Array Value} {below : List Frame} {meth : Method} {c : Code} (fx : gFx X p s m args meth c cX11_wholeOnes 3 RX11) (n : Nat) (x0 : Nat) (h0 : gK τ x0 11) (G : gG) {Q : State → Prop} {K : ((Int32)) → Prop} (hx0 : ∀ (y1 : Int32) (H : Heap) (locs : List Loc) (ls : Array Slot), gHw X τ G H locs → lv_has ls 3 [(1, .int y1)] → K y1 → W p l e rm_X11_wholeOnes s m args below meth c H locs 0 0 Q (F0 m 36 ls [])) : ∀ (k : Nat) (x1 : Int32) (x2 : Int32) (H : Heap) (locs : List Loc) (ls : Array Slot), gHw X τ G H locs → lv_has ls 3 [(0, .ref x0), (1, .int x1), (2, .int x2)] → gOk (gIter (fun (q : Int32 × Int32) => b_X11_wholeOnes_4 τ n x0 q.1 q.2 G) k (x1, x2)) K → W p l e rm_X11_wholeOnes s m args below meth c H locs 0 0 Q (F0 m 4 ls []) := by
  intro k
  induction k with
  | zero =>
    intro x1 x2  H locs ls hw hl hok
    exact gOk_iter0 hok
  | succ k hc =>
    intro x1 x2  H locs ls hw hl hok
    exact w_b_X11_wholeOnes_4 fx n x0 x1 x2 h0 hw hl (gOk_iter hok) hc hx0
set_option maxHeartbeats 4000000 in
set_option maxRecDepth 100000 in
theorem c_X11_wholeOnes (l : Launch) (X : gX) (τ : gτ) (n : Nat) (x0 : Nat) (G : gG) (h0 : gK τ x0 11) {r : Int32}  (h : f_X11_wholeOnes τ n x0 G = some r) : gM l X τ yX11_wholeOnes cX11_wholeOnes 3 (some .int) rm_X11_wholeOnes [.ref x0] G (some (.int r)) G := by
  refine g_body (by decide +kernel) (Nat.le_of_ble_eq_true rfl) ?_
  intro p e s m args below meth c ls fx hr hw hl
  have fx : gFx X p s m args meth c cX11_wholeOnes 3 RX11 := fx
  have hl : lv_has ls 3 [(0, .ref x0)] := hl
  have hok : gOk (f_X11_wholeOnes τ n x0 G) (fun q => q = r) := ⟨_, h, rfl⟩
  unfold f_X11_wholeOnes at hok
  show W p l e rm_X11_wholeOnes s m args below meth c s.heap [] 0 0 (MQ below (gQ X τ (some (.int r)) G) args s 0 0 (gFree X)) _
  refine lv_iconst (v := 0) fx.1 fx.2.1 dX11_wholeOnes_0 (by decide) ?_
  refine lv_istore_n (lv' := [(1, .int (0 : Int32)), (0, .ref x0)]) fx.1 fx.2.1 dX11_wholeOnes_1 rfl hl (by decide) rfl (fun ls hl => ?_)
  refine lv_iconst (v := 0) fx.1 fx.2.1 dX11_wholeOnes_2 (by decide) ?_
  refine lv_istore_n (lv' := [(2, .int (0 : Int32)), (1, .int (0 : Int32)), (0, .ref x0)]) fx.1 fx.2.1 dX11_wholeOnes_3 rfl hl (by decide) rfl (fun ls hl => ?_)
  refine w_l_X11_wholeOnes_4 fx n x0 h0 G ?_ n (0 : Int32) (0 : Int32)  _ _ _  hw (lv_sub hl [2, 1, 0] rfl) (gOk_bindK hok)
  intro z5  H locs ls hw hl hok
  have hok : gOk (ρ := Int32) (some (z5)) _ := hok
  refine lv_iload_n fx.1 fx.2.1 dX11_wholeOnes_36 rfl (lv_at hl 0 rfl) ?_
  cases gOk_some hok
  exact g_iret fx hw hr dX11_wholeOnes_37
theorem dX11_fewest_0 : decode cX11_fewest 0 = .ok (.aload_n 0, 1) := by decide +kernel
theorem dX11_fewest_1 : decode cX11_fewest 1 = .ok (.iconst 0, 1) := by decide +kernel
theorem dX11_fewest_2 : decode cX11_fewest 2 = .ok (.putfield 3, 3) := by decide +kernel
theorem dX11_fewest_5 : decode cX11_fewest 5 = .ok (.aload_n 0, 1) := by decide +kernel
theorem dX11_fewest_6 : decode cX11_fewest 6 = .ok (.invokevirtual 414, 3) := by decide +kernel
theorem dX11_fewest_9 : decode cX11_fewest 9 = .ok (.istore_n 1, 1) := by decide +kernel
theorem dX11_fewest_10 : decode cX11_fewest 10 = .ok (.iconst (-1), 1) := by decide +kernel
theorem dX11_fewest_11 : decode cX11_fewest 11 = .ok (.istore_n 2, 1) := by decide +kernel
theorem dX11_fewest_12 : decode cX11_fewest 12 = .ok (.iload_n 1, 1) := by decide +kernel
theorem dX11_fewest_13 : decode cX11_fewest 13 = .ok (.istore_n 3, 1) := by decide +kernel
theorem dX11_fewest_14 : decode cX11_fewest 14 = .ok (.iload_n 3, 1) := by decide +kernel
theorem dX11_fewest_15 : decode cX11_fewest 15 = .ok (.ifCond .lt 53, 3) := by decide +kernel
theorem dX11_fewest_18 : decode cX11_fewest 18 = .ok (.iload_n 3, 1) := by decide +kernel
theorem dX11_fewest_19 : decode cX11_fewest 19 = .ok (.iload_n 1, 1) := by decide +kernel
theorem dX11_fewest_20 : decode cX11_fewest 20 = .ok (.iconst (-1), 1) := by decide +kernel
theorem dX11_fewest_21 : decode cX11_fewest 21 = .ok (.ixor, 1) := by decide +kernel
theorem dX11_fewest_22 : decode cX11_fewest 22 = .ok (.iand, 1) := by decide +kernel
theorem dX11_fewest_23 : decode cX11_fewest 23 = .ok (.ifCond .ne 39, 3) := by decide +kernel
theorem dX11_fewest_26 : decode cX11_fewest 26 = .ok (.aload_n 0, 1) := by decide +kernel
theorem dX11_fewest_27 : decode cX11_fewest 27 = .ok (.iload_n 3, 1) := by decide +kernel
theorem dX11_fewest_28 : decode cX11_fewest 28 = .ok (.invokevirtual 417, 3) := by decide +kernel
theorem dX11_fewest_31 : decode cX11_fewest 31 = .ok (.aload_n 0, 1) := by decide +kernel
theorem dX11_fewest_32 : decode cX11_fewest 32 = .ok (.invokevirtual 420, 3) := by decide +kernel
theorem dX11_fewest_35 : decode cX11_fewest 35 = .ok (.if_icmp .ge 6, 3) := by decide +kernel
theorem dX11_fewest_38 : decode cX11_fewest 38 = .ok (.goto 24, 3) := by decide +kernel
theorem dX11_fewest_41 : decode cX11_fewest 41 = .ok (.iload_n 2, 1) := by decide +kernel
theorem dX11_fewest_42 : decode cX11_fewest 42 = .ok (.ifCond .lt 14, 3) := by decide +kernel
theorem dX11_fewest_45 : decode cX11_fewest 45 = .ok (.iload_n 3, 1) := by decide +kernel
theorem dX11_fewest_46 : decode cX11_fewest 46 = .ok (.invokestatic 273, 3) := by decide +kernel
theorem dX11_fewest_49 : decode cX11_fewest 49 = .ok (.iload_n 2, 1) := by decide +kernel
theorem dX11_fewest_50 : decode cX11_fewest 50 = .ok (.invokestatic 273, 3) := by decide +kernel
theorem dX11_fewest_53 : decode cX11_fewest 53 = .ok (.if_icmp .gt 7, 3) := by decide +kernel
theorem dX11_fewest_56 : decode cX11_fewest 56 = .ok (.iload_n 3, 1) := by decide +kernel
theorem dX11_fewest_57 : decode cX11_fewest 57 = .ok (.goto 4, 3) := by decide +kernel
theorem dX11_fewest_60 : decode cX11_fewest 60 = .ok (.iload_n 2, 1) := by decide +kernel
theorem dX11_fewest_61 : decode cX11_fewest 61 = .ok (.istore_n 2, 1) := by decide +kernel
theorem dX11_fewest_62 : decode cX11_fewest 62 = .ok (.iinc 3 (-1), 3) := by decide +kernel
theorem dX11_fewest_65 : decode cX11_fewest 65 = .ok (.goto (-51), 3) := by decide +kernel
theorem dX11_fewest_68 : decode cX11_fewest 68 = .ok (.iload_n 2, 1) := by decide +kernel
theorem dX11_fewest_69 : decode cX11_fewest 69 = .ok (.ireturn, 1) := by decide +kernel
theorem lv_RX11_414 : gLv RX11 414 RX11 yX11_wholeOnes cX11_wholeOnes 3 (some .int) 0 := gLv_of (wA_t (wt9 (List.mem_of_getElem? (i := 43) (by decide +kernel))) (by decide +kernel)) (wA_t (wt9 (List.mem_of_getElem? (i := 45) (by decide +kernel))) (by decide +kernel)) (wA_of (List.mem_append_left _ (List.mem_map.mpr ⟨(⟨"YearRopeModel", "wholeOnes", "()I"⟩, 20), wp8 (List.mem_of_getElem? (i := 6) (by decide +kernel)), rfl⟩)) (by decide +kernel)) (wA_t (wt1 (List.mem_of_getElem? (i := 12) (by decide +kernel))) (by decide +kernel)) (wA_t (wt9 (List.mem_of_getElem? (i := 46) (by decide +kernel))) (by decide +kernel)) ⟨rfl, by decide +kernel, by decide +kernel, by decide +kernel⟩
theorem lv_RX11_417 : gLv RX11 417 RX11 yX11_bearsAll cX11_bearsAll 4 (some .int) 1 := gLv_of (wA_t (wt9 (List.mem_of_getElem? (i := 47) (by decide +kernel))) (by decide +kernel)) (wA_t (wt9 (List.mem_of_getElem? (i := 49) (by decide +kernel))) (by decide +kernel)) (wA_of (List.mem_append_left _ (List.mem_map.mpr ⟨(⟨"YearRopeModel", "bearsAll", "(I)I"⟩, 20), wp8 (List.mem_of_getElem? (i := 7) (by decide +kernel)), rfl⟩)) (by decide +kernel)) (wA_t (wt1 (List.mem_of_getElem? (i := 12) (by decide +kernel))) (by decide +kernel)) (wA_t (wt9 (List.mem_of_getElem? (i := 50) (by decide +kernel))) (by decide +kernel)) ⟨rfl, by decide +kernel, by decide +kernel, by decide +kernel⟩
theorem lv_RX11_420 : gLv RX11 420 RX11 yX11_allLoads cX11_allLoads 3 (some .int) 0 := gLv_of (wA_t (wt9 (List.mem_of_getElem? (i := 51) (by decide +kernel))) (by decide +kernel)) (wA_t (wt9 (List.mem_of_getElem? (i := 53) (by decide +kernel))) (by decide +kernel)) (wA_of (List.mem_append_left _ (List.mem_map.mpr ⟨(⟨"YearRopeModel", "allLoads", "()I"⟩, 20), wp8 (List.mem_of_getElem? (i := 8) (by decide +kernel)), rfl⟩)) (by decide +kernel)) (wA_t (wt1 (List.mem_of_getElem? (i := 12) (by decide +kernel))) (by decide +kernel)) (wA_t (wt9 (List.mem_of_getElem? (i := 54) (by decide +kernel))) (by decide +kernel)) ⟨rfl, by decide +kernel, by decide +kernel, by decide +kernel⟩
def rm_X11_fewest : Room := { frames := 9, cells := 0, slots := 0, locals := 208 }
def k_X11_fewest_56 (τ : gτ) (n : Nat) (x0 : Nat) (x1 : Int32) (x3 : Int32)  (G : gG) : Option ((Int32 × Int32 × gG) ⊕ ((Int32 × gG))) :=
  gLet (x3 + (-1)) fun v6 =>
  some (.inl (x3, v6, G))
def b_X11_fewest_14 (τ : gτ) (n : Nat) (x0 : Nat) (x1 : Int32) (x2 : Int32) (x3 : Int32) (G : gG) : Option ((Int32 × Int32 × gG) ⊕ ((Int32 × gG))) :=
  if x3 < 0 then (some (.inr (x2, G)))
  else (if (x3 &&& (x1 ^^^ (-1 : Int32))) = 0 then (gBind2 (f_X11_bearsAll τ n x0 x3 G) fun v3 G4 =>
  (f_X11_allLoads τ n x0 G4).bind fun v5 =>
  if v5 ≤ v3 then (if x2 < 0 then (k_X11_fewest_56 τ n x0 x1 x3  G4)
  else ((f_J6_bitCount_0f7a4 x3).bind fun v7 =>
  (f_J6_bitCount_0f7a4 x2).bind fun v8 =>
  if v8 < v7 then (gLet (x3 + (-1)) fun v9 =>
  some (.inl (x2, v9, G4)))
  else (k_X11_fewest_56 τ n x0 x1 x3  G4)))
  else (gLet (x3 + (-1)) fun v10 =>
  some (.inl (x2, v10, G4))))
  else (gLet (x3 + (-1)) fun v11 =>
  some (.inl (x2, v11, G))))
def l_X11_fewest_14 (τ : gτ) (n : Nat) (x0 : Nat) (x1 : Int32) (x2 : Int32) (x3 : Int32) (G : gG) : Option ((Int32 × gG)) :=
  gIter (fun (q : Int32 × Int32 × gG) => b_X11_fewest_14 τ n x0 x1 q.1 q.2.1 q.2.2) n (x2, x3, G)
def f_X11_fewest (τ : gτ) (n : Nat) (x0 : Nat) (G : gG) : Option (Int32 × gG) :=
  gLet (gsi G 11 0 x0 (0 : Int32)) fun G1 =>
  (f_X11_wholeOnes τ n x0 G1).bind fun v2 =>
  (l_X11_fewest_14 τ n x0 v2 (-1 : Int32) v2 G1).bind fun q => gLet q.1 fun z12 => gLet q.2 fun G13 => 
  some (z12, G13)
set_option maxHeartbeats 4000000 in
set_option maxRecDepth 100000 in
theorem w_X11_fewest_56 {X : gX} {τ : gτ} {p : Program} {l : Launch} {e : Env} {s : State} {m : MethodId} {args : Array Value} {below : List Frame} {meth : Method} {c : Code} (fx : gFx X p s m args meth c cX11_fewest 4 RX11) (n : Nat) (x0 : Nat) (x1 : Int32) (x3 : Int32)  (h0 : gK τ x0 11)  {Q : State → Prop} {K : ((Int32 × Int32 × gG) ⊕ ((Int32 × gG))) → Prop} {G : gG} {H : Heap} {locs : List Loc} {ls : Array Slot} (hw : gHw X τ G H locs) (hl : lv_has ls 4 [(0, .ref x0), (1, .int x1), (3, .int x3)]) (hok : gOk (k_X11_fewest_56 τ n x0 x1 x3  G) K) (hc : ∀ (y2 : Int32) (y3 : Int32) (G : gG) (H : Heap) (locs : List Loc) (ls : Array Slot), gHw X τ G H locs → lv_has ls 4 [(0, .ref x0), (1, .int x1), (2, .int y2), (3, .int y3)] → K (.inl (y2, y3, G)) → W p l e rm_X11_fewest s m args below meth c H locs 0 0 Q (F0 m 14 ls [])) (hx0 : ∀ (y2 : Int32) (G : gG) (H : Heap) (locs : List Loc) (ls : Array Slot), gHw X τ G H locs → lv_has ls 4 [(2, .int y2)] → K (.inr (y2, G)) → W p l e rm_X11_fewest s m args below meth c H locs 0 0 Q (F0 m 68 ls [])) : W p l e rm_X11_fewest s m args below meth c H locs 0 0 Q (F0 m 56 ls []) := by
  unfold k_X11_fewest_56 at hok
  refine lv_iload_n fx.1 fx.2.1 dX11_fewest_56 rfl (lv_at hl 2 rfl) ?_
  refine lv_goto (tgt := 61) fx.1 fx.2.1 dX11_fewest_57 (by decide) ?_
  refine lv_istore_n (lv' := [(2, .int x3), (0, .ref x0), (1, .int x1), (3, .int x3)]) fx.1 fx.2.1 dX11_fewest_61 rfl hl (by decide) rfl (fun ls hl => ?_)
  obtain ⟨v6, e_v6, hok⟩ := gOk_let hok
  refine lv_iinc (v := v6) (lv' := [(3, .int v6), (2, .int x3), (0, .ref x0), (1, .int x1)]) fx.1 fx.2.1 dX11_fewest_62 hl (k := 3) rfl (by rw [e_v6]; rfl) (by decide) rfl (fun ls hl => ?_)
  refine lv_goto (tgt := 14) fx.1 fx.2.1 dX11_fewest_65 (by decide) ?_
  exact hc x3 v6 G _ _ _  hw (lv_sub hl [2, 3, 1, 0] rfl) (gOk_some hok)
set_option maxHeartbeats 4000000 in
set_option maxRecDepth 100000 in
theorem w_b_X11_fewest_14 {X : gX} {τ : gτ} {p : Program} {l : Launch} {e : Env} {s : State} {m : MethodId} {args : Array Value} {below : List Frame} {meth : Method} {c : Code} (fx : gFx X p s m args meth c cX11_fewest 4 RX11) (n : Nat) (x0 : Nat) (x1 : Int32) (x2 : Int32) (x3 : Int32) (h0 : gK τ x0 11) {Q : State → Prop} {K : ((Int32 × Int32 × gG) ⊕ ((Int32 × gG))) → Prop} {G : gG} {H : Heap} {locs : List Loc} {ls : Array Slot} (hw : gHw X τ G H locs) (hl : lv_has ls 4 [(0, .ref x0), (1, .int x1), (2, .int x2), (3, .int x3)]) (hok : gOk (b_X11_fewest_14 τ n x0 x1 x2 x3 G) K) (hc : ∀ (y2 : Int32) (y3 : Int32) (G : gG) (H : Heap) (locs : List Loc) (ls : Array Slot), gHw X τ G H locs → lv_has ls 4 [(0, .ref x0), (1, .int x1), (2, .int y2), (3, .int y3)] → K (.inl (y2, y3, G)) → W p l e rm_X11_fewest s m args below meth c H locs 0 0 Q (F0 m 14 ls [])) (hx0 : ∀ (y2 : Int32) (G : gG) (H : Heap) (locs : List Loc) (ls : Array Slot), gHw X τ G H locs → lv_has ls 4 [(2, .int y2)] → K (.inr (y2, G)) → W p l e rm_X11_fewest s m args below meth c H locs 0 0 Q (F0 m 68 ls [])) : W p l e rm_X11_fewest s m args below meth c H locs 0 0 Q (F0 m 14 ls []) := by
  unfold b_X11_fewest_14 at hok
  refine lv_iload_n fx.1 fx.2.1 dX11_fewest_14 rfl (lv_at hl 3 rfl) ?_
  refine g_if_lt (tgt := 68) fx dX11_fewest_15 (by decide) hok (fun hok => ?_) (fun hok => ?_)
  · exact hx0 x2 G _ _ _  hw (lv_sub hl [2] rfl) (gOk_some hok)
  · refine lv_iload_n fx.1 fx.2.1 dX11_fewest_18 rfl (lv_at hl 3 rfl) ?_
    refine lv_iload_n fx.1 fx.2.1 dX11_fewest_19 rfl (lv_at hl 1 rfl) ?_
    refine lv_iconst (v := (-1)) fx.1 fx.2.1 dX11_fewest_20 (by decide) ?_
    refine lv_ixor fx.1 fx.2.1 dX11_fewest_21 ?_
    refine lv_iand fx.1 fx.2.1 dX11_fewest_22 ?_
    refine g_if_ne (tgt := 62) fx dX11_fewest_23 (by decide) hok (fun hok => ?_) (fun hok => ?_)
    · refine lv_aload_n fx.1 fx.2.1 dX11_fewest_26 rfl (lv_at hl 0 rfl) ?_
      refine lv_iload_n fx.1 fx.2.1 dX11_fewest_27 rfl (lv_at hl 3 rfl) ?_
      obtain ⟨v3, G4, hf, hok⟩ := gOk_bind2 hok
      refine g_callV0 (κ := 11) fx hw (c_X11_bearsAll l X τ n x0 x3 G h0 hf) lv_RX11_417 ⟨rfl, rfl⟩ rfl rfl h0 rfl hl.1 rfl ⟨Nat.le_of_ble_eq_true rfl, Nat.le_of_ble_eq_true rfl⟩ (Nat.le_of_ble_eq_true rfl) ⟨Nat.le_of_ble_eq_true rfl, Nat.le_of_ble_eq_true rfl⟩ dX11_fewest_28 (fun H locs hw => ?_)
      refine lv_aload_n fx.1 fx.2.1 dX11_fewest_31 rfl (lv_at hl 0 rfl) ?_
      obtain ⟨v5, hf, hok⟩ := gOk_bind hok
      refine g_callV0 (κ := 11) fx hw (c_X11_allLoads l X τ n x0 G4 h0 hf) lv_RX11_420 ⟨rfl, rfl⟩ rfl rfl h0 rfl hl.1 rfl ⟨Nat.le_of_ble_eq_true rfl, Nat.le_of_ble_eq_true rfl⟩ (Nat.le_of_ble_eq_true rfl) ⟨Nat.le_of_ble_eq_true rfl, Nat.le_of_ble_eq_true rfl⟩ dX11_fewest_32 (fun H locs hw => ?_)
      refine g_icmp_ge (tgt := 41) fx dX11_fewest_35 (by decide) hok (fun hok => ?_) (fun hok => ?_)
      · refine lv_iload_n fx.1 fx.2.1 dX11_fewest_41 rfl (lv_at hl 2 rfl) ?_
        refine g_if_lt (tgt := 56) fx dX11_fewest_42 (by decide) hok (fun hok => ?_) (fun hok => ?_)
        · exact w_X11_fewest_56 fx n x0 x1 x3  h0  hw (lv_sub hl [0, 1, 3] rfl) hok hc hx0
        · refine lv_iload_n fx.1 fx.2.1 dX11_fewest_45 rfl (lv_at hl 3 rfl) ?_
          obtain ⟨v7, hf, hok⟩ := gOk_bind hok
          refine g_callS0 fx hw (c_J6_bitCount_0f7a4 l X τ x3 G4  hf) ls_RX11_273 ⟨rfl, rfl⟩ rfl hl.1 rfl ⟨Nat.le_of_ble_eq_true rfl, Nat.le_of_ble_eq_true rfl⟩ (Nat.le_of_ble_eq_true rfl) ⟨Nat.le_of_ble_eq_true rfl, Nat.le_of_ble_eq_true rfl⟩ dX11_fewest_46 (fun H locs hw => ?_)
          refine lv_iload_n fx.1 fx.2.1 dX11_fewest_49 rfl (lv_at hl 2 rfl) ?_
          obtain ⟨v8, hf, hok⟩ := gOk_bind hok
          refine g_callS0 fx hw (c_J6_bitCount_0f7a4 l X τ x2 G4  hf) ls_RX11_273 ⟨rfl, rfl⟩ rfl hl.1 rfl ⟨Nat.le_of_ble_eq_true rfl, Nat.le_of_ble_eq_true rfl⟩ (Nat.le_of_ble_eq_true rfl) ⟨Nat.le_of_ble_eq_true rfl, Nat.le_of_ble_eq_true rfl⟩ dX11_fewest_50 (fun H locs hw => ?_)
          refine g_icmp_gt (tgt := 60) fx dX11_fewest_53 (by decide) hok (fun hok => ?_) (fun hok => ?_)
          · refine lv_iload_n fx.1 fx.2.1 dX11_fewest_60 rfl (lv_at hl 2 rfl) ?_
            refine lv_istore_n (lv' := [(2, .int x2), (0, .ref x0), (1, .int x1), (3, .int x3)]) fx.1 fx.2.1 dX11_fewest_61 rfl hl (by decide) rfl (fun ls hl => ?_)
            obtain ⟨v9, e_v9, hok⟩ := gOk_let hok
            refine lv_iinc (v := v9) (lv' := [(3, .int v9), (2, .int x2), (0, .ref x0), (1, .int x1)]) fx.1 fx.2.1 dX11_fewest_62 hl (k := 3) rfl (by rw [e_v9]; rfl) (by decide) rfl (fun ls hl => ?_)
            refine lv_goto (tgt := 14) fx.1 fx.2.1 dX11_fewest_65 (by decide) ?_
            exact hc x2 v9 G4 _ _ _  hw (lv_sub hl [2, 3, 1, 0] rfl) (gOk_some hok)
          · exact w_X11_fewest_56 fx n x0 x1 x3  h0  hw (lv_sub hl [0, 1, 3] rfl) hok hc hx0
      · refine lv_goto (tgt := 62) fx.1 fx.2.1 dX11_fewest_38 (by decide) ?_
        obtain ⟨v10, e_v10, hok⟩ := gOk_let hok
        refine lv_iinc (v := v10) (lv' := [(3, .int v10), (0, .ref x0), (1, .int x1), (2, .int x2)]) fx.1 fx.2.1 dX11_fewest_62 hl (k := 3) rfl (by rw [e_v10]; rfl) (by decide) rfl (fun ls hl => ?_)
        refine lv_goto (tgt := 14) fx.1 fx.2.1 dX11_fewest_65 (by decide) ?_
        exact hc x2 v10 G4 _ _ _  hw (lv_sub hl [1, 2, 3, 0] rfl) (gOk_some hok)
    · obtain ⟨v11, e_v11, hok⟩ := gOk_let hok
      refine lv_iinc (v := v11) (lv' := [(3, .int v11), (0, .ref x0), (1, .int x1), (2, .int x2)]) fx.1 fx.2.1 dX11_fewest_62 hl (k := 3) rfl (by rw [e_v11]; rfl) (by decide) rfl (fun ls hl => ?_)
      refine lv_goto (tgt := 14) fx.1 fx.2.1 dX11_fewest_65 (by decide) ?_
      exact hc x2 v11 G _ _ _  hw (lv_sub hl [1, 2, 3, 0] rfl) (gOk_some hok)
theorem w_l_X11_fewest_14 {X : gX} {τ : gτ} {p : Program} {l : Launch} {e : Env} {s : State} {m : MethodId} {args : Array Value} {below : List Frame} {meth : Method} {c : Code} (fx : gFx X p s m args meth c cX11_fewest 4 RX11) (n : Nat) (x0 : Nat) (x1 : Int32) (h0 : gK τ x0 11) {Q : State → Prop} {K : ((Int32 × gG)) → Prop} (hx0 : ∀ (y2 : Int32) (G : gG) (H : Heap) (locs : List Loc) (ls : Array Slot), gHw X τ G H locs → lv_has ls 4 [(2, .int y2)] → K (y2, G) → W p l e rm_X11_fewest s m args below meth c H locs 0 0 Q (F0 m 68 ls [])) : ∀ (k : Nat) (x2 : Int32) (x3 : Int32) (G : gG) (H : Heap) (locs : List Loc) (ls : Array Slot), gHw X τ G H locs → lv_has ls 4 [(0, .ref x0), (1, .int x1), (2, .int x2), (3, .int x3)] → gOk (gIter (fun (q : Int32 × Int32 × gG) => b_X11_fewest_14 τ n x0 x1 q.1 q.2.1 q.2.2) k (x2, x3, G)) K → W p l e rm_X11_fewest s m args below meth c H locs 0 0 Q (F0 m 14 ls []) := by
  intro k
  induction k with
  | zero =>
    intro x2 x3 G H locs ls hw hl hok
    exact gOk_iter0 hok
  | succ k hc =>
    intro x2 x3 G H locs ls hw hl hok
    exact w_b_X11_fewest_14 fx n x0 x1 x2 x3 h0 hw hl (gOk_iter hok) hc hx0
set_option maxHeartbeats 4000000 in
set_option maxRecDepth 100000 in
theorem c_X11_fewest (l : Launch) (X : gX) (τ : gτ) (n : Nat) (x0 : Nat) (G : gG) (h0 : gK τ x0 11) {r : Int32} {G' : gG} (h : f_X11_fewest τ n x0 G = some (r, G')) : gM l X τ yX11_fewest cX11_fewest 4 (some .int) rm_X11_fewest [.ref x0] G (some (.int r)) G' := by
  refine g_body (by decide +kernel) (Nat.le_of_ble_eq_true rfl) ?_
  intro p e s m args below meth c ls fx hr hw hl
  have fx : gFx X p s m args meth c cX11_fewest 4 RX11 := fx
  have hl : lv_has ls 4 [(0, .ref x0)] := hl
  have hok : gOk (f_X11_fewest τ n x0 G) (fun q => q = (r, G')) := ⟨_, h, rfl⟩
  unfold f_X11_fewest at hok
  show W p l e rm_X11_fewest s m args below meth c s.heap [] 0 0 (MQ below (gQ X τ (some (.int r)) G') args s 0 0 (gFree X)) _
  refine lv_aload_n fx.1 fx.2.1 dX11_fewest_0 rfl (lv_at hl 0 rfl) ?_
  refine lv_iconst (v := 0) fx.1 fx.2.1 dX11_fewest_1 (by decide) ?_
  refine g_puti fx hw h0 lp_RX11_3 rfl rfl dX11_fewest_2 hok (fun G1 H locs hw hok => ?_)
  refine lv_aload_n fx.1 fx.2.1 dX11_fewest_5 rfl (lv_at hl 0 rfl) ?_
  obtain ⟨v2, hf, hok⟩ := gOk_bind hok
  refine g_callV0 (κ := 11) fx hw (c_X11_wholeOnes l X τ n x0 G1 h0 hf) lv_RX11_414 ⟨rfl, rfl⟩ rfl rfl h0 rfl hl.1 rfl ⟨Nat.le_of_ble_eq_true rfl, Nat.le_of_ble_eq_true rfl⟩ (Nat.le_of_ble_eq_true rfl) ⟨Nat.le_of_ble_eq_true rfl, Nat.le_of_ble_eq_true rfl⟩ dX11_fewest_6 (fun H locs hw => ?_)
  refine lv_istore_n (lv' := [(1, .int v2), (0, .ref x0)]) fx.1 fx.2.1 dX11_fewest_9 rfl hl (by decide) rfl (fun ls hl => ?_)
  refine lv_iconst (v := (-1)) fx.1 fx.2.1 dX11_fewest_10 (by decide) ?_
  refine lv_istore_n (lv' := [(2, .int (-1 : Int32)), (1, .int v2), (0, .ref x0)]) fx.1 fx.2.1 dX11_fewest_11 rfl hl (by decide) rfl (fun ls hl => ?_)
  refine lv_iload_n fx.1 fx.2.1 dX11_fewest_12 rfl (lv_at hl 1 rfl) ?_
  refine lv_istore_n (lv' := [(3, .int v2), (2, .int (-1 : Int32)), (1, .int v2), (0, .ref x0)]) fx.1 fx.2.1 dX11_fewest_13 rfl hl (by decide) rfl (fun ls hl => ?_)
  refine w_l_X11_fewest_14 fx n x0 v2 h0 ?_ n (-1 : Int32) v2 G1 _ _ _  hw (lv_sub hl [3, 2, 1, 0] rfl) (gOk_bindK hok)
  intro z12 G13 H locs ls hw hl hok
  have hok : gOk (ρ := Int32 × gG) (some (z12, G13)) _ := hok
  refine lv_iload_n fx.1 fx.2.1 dX11_fewest_68 rfl (lv_at hl 0 rfl) ?_
  cases gOk_some hok
  exact g_iret fx hw hr dX11_fewest_69
theorem dX11_priceOfAll_0 : decode cX11_priceOfAll 0 = .ok (.iconst 0, 1) := by decide +kernel
theorem dX11_priceOfAll_1 : decode cX11_priceOfAll 1 = .ok (.istore_n 2, 1) := by decide +kernel
theorem dX11_priceOfAll_2 : decode cX11_priceOfAll 2 = .ok (.iconst 0, 1) := by decide +kernel
theorem dX11_priceOfAll_3 : decode cX11_priceOfAll 3 = .ok (.istore_n 3, 1) := by decide +kernel
theorem dX11_priceOfAll_4 : decode cX11_priceOfAll 4 = .ok (.iload_n 3, 1) := by decide +kernel
theorem dX11_priceOfAll_5 : decode cX11_priceOfAll 5 = .ok (.aload_n 0, 1) := by decide +kernel
theorem dX11_priceOfAll_6 : decode cX11_priceOfAll 6 = .ok (.invokevirtual 73, 3) := by decide +kernel
theorem dX11_priceOfAll_9 : decode cX11_priceOfAll 9 = .ok (.if_icmp .ge 29, 3) := by decide +kernel
theorem dX11_priceOfAll_12 : decode cX11_priceOfAll 12 = .ok (.iload_n 2, 1) := by decide +kernel
theorem dX11_priceOfAll_13 : decode cX11_priceOfAll 13 = .ok (.iload_n 1, 1) := by decide +kernel
theorem dX11_priceOfAll_14 : decode cX11_priceOfAll 14 = .ok (.iload_n 3, 1) := by decide +kernel
theorem dX11_priceOfAll_15 : decode cX11_priceOfAll 15 = .ok (.invokestatic 312, 3) := by decide +kernel
theorem dX11_priceOfAll_18 : decode cX11_priceOfAll 18 = .ok (.ifCond .eq 11, 3) := by decide +kernel
theorem dX11_priceOfAll_21 : decode cX11_priceOfAll 21 = .ok (.aload_n 0, 1) := by decide +kernel
theorem dX11_priceOfAll_22 : decode cX11_priceOfAll 22 = .ok (.iload_n 3, 1) := by decide +kernel
theorem dX11_priceOfAll_23 : decode cX11_priceOfAll 23 = .ok (.invokevirtual 327, 3) := by decide +kernel
theorem dX11_priceOfAll_26 : decode cX11_priceOfAll 26 = .ok (.goto 4, 3) := by decide +kernel
theorem dX11_priceOfAll_29 : decode cX11_priceOfAll 29 = .ok (.iconst 0, 1) := by decide +kernel
theorem dX11_priceOfAll_30 : decode cX11_priceOfAll 30 = .ok (.iadd, 1) := by decide +kernel
theorem dX11_priceOfAll_31 : decode cX11_priceOfAll 31 = .ok (.istore_n 2, 1) := by decide +kernel
theorem dX11_priceOfAll_32 : decode cX11_priceOfAll 32 = .ok (.iinc 3 1, 3) := by decide +kernel
theorem dX11_priceOfAll_35 : decode cX11_priceOfAll 35 = .ok (.goto (-31), 3) := by decide +kernel
theorem dX11_priceOfAll_38 : decode cX11_priceOfAll 38 = .ok (.iload_n 2, 1) := by decide +kernel
theorem dX11_priceOfAll_39 : decode cX11_priceOfAll 39 = .ok (.ireturn, 1) := by decide +kernel
def rm_X11_priceOfAll : Room := { frames := 4, cells := 0, slots := 0, locals := 85 }
def k_X11_priceOfAll_30 (τ : gτ) (n : Nat) (x0 : Nat) (x1 : Int32) (x3 : Int32) (s0 : Int32) (s1 : Int32) (G : gG) : Option ((Int32 × Int32) ⊕ ((Int32))) :=
  gLet (s0 + s1) fun v3 =>
  gLet (x3 + 1) fun v4 =>
  some (.inl (v3, v4))
def b_X11_priceOfAll_4 (τ : gτ) (n : Nat) (x0 : Nat) (x1 : Int32) (x2 : Int32) (x3 : Int32) (G : gG) : Option ((Int32 × Int32) ⊕ ((Int32))) :=
  (f_X11_ropes τ x0 G).bind fun v1 =>
  if v1 ≤ x3 then (some (.inr x2))
  else ((f_X11_has x1 x3).bind fun v2 =>
  if v2 = 0 then (k_X11_priceOfAll_30 τ n x0 x1 x3 x2 (0 : Int32) G)
  else ((f_X11_priceOf τ x0 x3 G).bind fun v5 =>
  k_X11_priceOfAll_30 τ n x0 x1 x3 x2 v5 G))
def l_X11_priceOfAll_4 (τ : gτ) (n : Nat) (x0 : Nat) (x1 : Int32) (x2 : Int32) (x3 : Int32) (G : gG) : Option ((Int32)) :=
  gIter (fun (q : Int32 × Int32) => b_X11_priceOfAll_4 τ n x0 x1 q.1 q.2 G) n (x2, x3)
def f_X11_priceOfAll (τ : gτ) (n : Nat) (x0 : Nat) (x1 : Int32) (G : gG) : Option (Int32) :=
  (l_X11_priceOfAll_4 τ n x0 x1 (0 : Int32) (0 : Int32) G).bind fun q => gLet q fun z6 => 
  some (z6)
set_option maxHeartbeats 4000000 in
set_option maxRecDepth 100000 in
theorem w_X11_priceOfAll_30 {X : gX} {τ : gτ} {p : Program} {l : Launch} {e : Env} {s : State} {m : MethodId} {args : Array Value} {below : List Frame} {meth : Method} {c : Code} (fx : gFx X p s m args meth c cX11_priceOfAll 4 RX11) (n : Nat) (x0 : Nat) (x1 : Int32) (x3 : Int32) (s0 : Int32) (s1 : Int32) (h0 : gK τ x0 11)  {Q : State → Prop} {K : ((Int32 × Int32) ⊕ ((Int32))) → Prop} {G : gG} {H : Heap} {locs : List Loc} {ls : Array Slot} (hw : gHw X τ G H locs) (hl : lv_has ls 4 [(0, .ref x0), (1, .int x1), (3, .int x3)]) (hok : gOk (k_X11_priceOfAll_30 τ n x0 x1 x3 s0 s1 G) K) (hc : ∀ (y2 : Int32) (y3 : Int32) (H : Heap) (locs : List Loc) (ls : Array Slot), gHw X τ G H locs → lv_has ls 4 [(0, .ref x0), (1, .int x1), (2, .int y2), (3, .int y3)] → K (.inl (y2, y3)) → W p l e rm_X11_priceOfAll s m args below meth c H locs 0 0 Q (F0 m 4 ls [])) (hx0 : ∀ (y2 : Int32) (H : Heap) (locs : List Loc) (ls : Array Slot), gHw X τ G H locs → lv_has ls 4 [(2, .int y2)] → K (.inr y2) → W p l e rm_X11_priceOfAll s m args below meth c H locs 0 0 Q (F0 m 38 ls [])) : W p l e rm_X11_priceOfAll s m args below meth c H locs 0 0 Q (F0 m 30 ls [.int s1, .int s0]) := by
  unfold k_X11_priceOfAll_30 at hok
  refine lv_iadd fx.1 fx.2.1 dX11_priceOfAll_30 ?_
  refine g_leti hok (fun v3 hok => ?_)
  refine lv_istore_n (lv' := [(2, .int v3), (0, .ref x0), (1, .int x1), (3, .int x3)]) fx.1 fx.2.1 dX11_priceOfAll_31 rfl hl (by decide) rfl (fun ls hl => ?_)
  obtain ⟨v4, e_v4, hok⟩ := gOk_let hok
  refine lv_iinc (v := v4) (lv' := [(3, .int v4), (2, .int v3), (0, .ref x0), (1, .int x1)]) fx.1 fx.2.1 dX11_priceOfAll_32 hl (k := 3) rfl (by rw [e_v4]; rfl) (by decide) rfl (fun ls hl => ?_)
  refine lv_goto (tgt := 4) fx.1 fx.2.1 dX11_priceOfAll_35 (by decide) ?_
  exact hc v3 v4  _ _ _  hw (lv_sub hl [2, 3, 1, 0] rfl) (gOk_some hok)
set_option maxHeartbeats 4000000 in
set_option maxRecDepth 100000 in
theorem w_b_X11_priceOfAll_4 {X : gX} {τ : gτ} {p : Program} {l : Launch} {e : Env} {s : State} {m : MethodId} {args : Array Value} {below : List Frame} {meth : Method} {c : Code} (fx : gFx X p s m args meth c cX11_priceOfAll 4 RX11) (n : Nat) (x0 : Nat) (x1 : Int32) (x2 : Int32) (x3 : Int32) (h0 : gK τ x0 11) {Q : State → Prop} {K : ((Int32 × Int32) ⊕ ((Int32))) → Prop} {G : gG} {H : Heap} {locs : List Loc} {ls : Array Slot} (hw : gHw X τ G H locs) (hl : lv_has ls 4 [(0, .ref x0), (1, .int x1), (2, .int x2), (3, .int x3)]) (hok : gOk (b_X11_priceOfAll_4 τ n x0 x1 x2 x3 G) K) (hc : ∀ (y2 : Int32) (y3 : Int32) (H : Heap) (locs : List Loc) (ls : Array Slot), gHw X τ G H locs → lv_has ls 4 [(0, .ref x0), (1, .int x1), (2, .int y2), (3, .int y3)] → K (.inl (y2, y3)) → W p l e rm_X11_priceOfAll s m args below meth c H locs 0 0 Q (F0 m 4 ls [])) (hx0 : ∀ (y2 : Int32) (H : Heap) (locs : List Loc) (ls : Array Slot), gHw X τ G H locs → lv_has ls 4 [(2, .int y2)] → K (.inr y2) → W p l e rm_X11_priceOfAll s m args below meth c H locs 0 0 Q (F0 m 38 ls [])) : W p l e rm_X11_priceOfAll s m args below meth c H locs 0 0 Q (F0 m 4 ls []) := by
  unfold b_X11_priceOfAll_4 at hok
  refine lv_iload_n fx.1 fx.2.1 dX11_priceOfAll_4 rfl (lv_at hl 3 rfl) ?_
  refine lv_aload_n fx.1 fx.2.1 dX11_priceOfAll_5 rfl (lv_at hl 0 rfl) ?_
  obtain ⟨v1, hf, hok⟩ := gOk_bind hok
  refine g_callV0 (κ := 11) fx hw (c_X11_ropes l X τ x0 G h0 hf) lv_RX11_73 ⟨rfl, rfl⟩ rfl rfl h0 rfl hl.1 rfl ⟨Nat.le_of_ble_eq_true rfl, Nat.le_of_ble_eq_true rfl⟩ (Nat.le_of_ble_eq_true rfl) ⟨Nat.le_of_ble_eq_true rfl, Nat.le_of_ble_eq_true rfl⟩ dX11_priceOfAll_6 (fun H locs hw => ?_)
  refine g_icmp_ge (tgt := 38) fx dX11_priceOfAll_9 (by decide) hok (fun hok => ?_) (fun hok => ?_)
  · exact hx0 x2  _ _ _  hw (lv_sub hl [2] rfl) (gOk_some hok)
  · refine lv_iload_n fx.1 fx.2.1 dX11_priceOfAll_12 rfl (lv_at hl 2 rfl) ?_
    refine lv_iload_n fx.1 fx.2.1 dX11_priceOfAll_13 rfl (lv_at hl 1 rfl) ?_
    refine lv_iload_n fx.1 fx.2.1 dX11_priceOfAll_14 rfl (lv_at hl 3 rfl) ?_
    obtain ⟨v2, hf, hok⟩ := gOk_bind hok
    refine g_callS0 fx hw (c_X11_has l X τ x1 x3 G  hf) ls_RX11_312 ⟨rfl, rfl⟩ rfl hl.1 rfl ⟨Nat.le_of_ble_eq_true rfl, Nat.le_of_ble_eq_true rfl⟩ (Nat.le_of_ble_eq_true rfl) ⟨Nat.le_of_ble_eq_true rfl, Nat.le_of_ble_eq_true rfl⟩ dX11_priceOfAll_15 (fun H locs hw => ?_)
    refine g_if_eq (tgt := 29) fx dX11_priceOfAll_18 (by decide) hok (fun hok => ?_) (fun hok => ?_)
    · refine lv_iconst (v := 0) fx.1 fx.2.1 dX11_priceOfAll_29 (by decide) ?_
      exact w_X11_priceOfAll_30 fx n x0 x1 x3 x2 (0 : Int32) h0  hw (lv_sub hl [0, 1, 3] rfl) hok hc hx0
    · refine lv_aload_n fx.1 fx.2.1 dX11_priceOfAll_21 rfl (lv_at hl 0 rfl) ?_
      refine lv_iload_n fx.1 fx.2.1 dX11_priceOfAll_22 rfl (lv_at hl 3 rfl) ?_
      obtain ⟨v5, hf, hok⟩ := gOk_bind hok
      refine g_callV0 (κ := 11) fx hw (c_X11_priceOf l X τ x0 x3 G h0 hf) lv_RX11_327 ⟨rfl, rfl⟩ rfl rfl h0 rfl hl.1 rfl ⟨Nat.le_of_ble_eq_true rfl, Nat.le_of_ble_eq_true rfl⟩ (Nat.le_of_ble_eq_true rfl) ⟨Nat.le_of_ble_eq_true rfl, Nat.le_of_ble_eq_true rfl⟩ dX11_priceOfAll_23 (fun H locs hw => ?_)
      refine lv_goto (tgt := 30) fx.1 fx.2.1 dX11_priceOfAll_26 (by decide) ?_
      exact w_X11_priceOfAll_30 fx n x0 x1 x3 x2 v5 h0  hw (lv_sub hl [0, 1, 3] rfl) hok hc hx0
theorem w_l_X11_priceOfAll_4 {X : gX} {τ : gτ} {p : Program} {l : Launch} {e : Env} {s : State} {m : MethodId} {args : Array Value} {below : List Frame} {meth : Method} {c : Code} (fx : gFx X p s m args meth c cX11_priceOfAll 4 RX11) (n : Nat) (x0 : Nat) (x1 : Int32) (h0 : gK τ x0 11) (G : gG) {Q : State → Prop} {K : ((Int32)) → Prop} (hx0 : ∀ (y2 : Int32) (H : Heap) (locs : List Loc) (ls : Array Slot), gHw X τ G H locs → lv_has ls 4 [(2, .int y2)] → K y2 → W p l e rm_X11_priceOfAll s m args below meth c H locs 0 0 Q (F0 m 38 ls [])) : ∀ (k : Nat) (x2 : Int32) (x3 : Int32) (H : Heap) (locs : List Loc) (ls : Array Slot), gHw X τ G H locs → lv_has ls 4 [(0, .ref x0), (1, .int x1), (2, .int x2), (3, .int x3)] → gOk (gIter (fun (q : Int32 × Int32) => b_X11_priceOfAll_4 τ n x0 x1 q.1 q.2 G) k (x2, x3)) K → W p l e rm_X11_priceOfAll s m args below meth c H locs 0 0 Q (F0 m 4 ls []) := by
  intro k
  induction k with
  | zero =>
    intro x2 x3  H locs ls hw hl hok
    exact gOk_iter0 hok
  | succ k hc =>
    intro x2 x3  H locs ls hw hl hok
    exact w_b_X11_priceOfAll_4 fx n x0 x1 x2 x3 h0 hw hl (gOk_iter hok) hc hx0
set_option maxHeartbeats 4000000 in
set_option maxRecDepth 100000 in
theorem c_X11_priceOfAll (l : Launch) (X : gX) (τ : gτ) (n : Nat) (x0 : Nat) (x1 : Int32) (G : gG) (h0 : gK τ x0 11) {r : Int32}  (h : f_X11_priceOfAll τ n x0 x1 G = some r) : gM l X τ yX11_priceOfAll cX11_priceOfAll 4 (some .int) rm_X11_priceOfAll [.ref x0, .int x1] G (some (.int r)) G := by
  refine g_body (by decide +kernel) (Nat.le_of_ble_eq_true rfl) ?_
  intro p e s m args below meth c ls fx hr hw hl
  have fx : gFx X p s m args meth c cX11_priceOfAll 4 RX11 := fx
  have hl : lv_has ls 4 [(0, .ref x0), (1, .int x1)] := hl
  have hok : gOk (f_X11_priceOfAll τ n x0 x1 G) (fun q => q = r) := ⟨_, h, rfl⟩
  unfold f_X11_priceOfAll at hok
  show W p l e rm_X11_priceOfAll s m args below meth c s.heap [] 0 0 (MQ below (gQ X τ (some (.int r)) G) args s 0 0 (gFree X)) _
  refine lv_iconst (v := 0) fx.1 fx.2.1 dX11_priceOfAll_0 (by decide) ?_
  refine lv_istore_n (lv' := [(2, .int (0 : Int32)), (0, .ref x0), (1, .int x1)]) fx.1 fx.2.1 dX11_priceOfAll_1 rfl hl (by decide) rfl (fun ls hl => ?_)
  refine lv_iconst (v := 0) fx.1 fx.2.1 dX11_priceOfAll_2 (by decide) ?_
  refine lv_istore_n (lv' := [(3, .int (0 : Int32)), (2, .int (0 : Int32)), (0, .ref x0), (1, .int x1)]) fx.1 fx.2.1 dX11_priceOfAll_3 rfl hl (by decide) rfl (fun ls hl => ?_)
  refine w_l_X11_priceOfAll_4 fx n x0 x1 h0 G ?_ n (0 : Int32) (0 : Int32)  _ _ _  hw (lv_sub hl [2, 3, 1, 0] rfl) (gOk_bindK hok)
  intro z6  H locs ls hw hl hok
  have hok : gOk (ρ := Int32) (some (z6)) _ := hok
  refine lv_iload_n fx.1 fx.2.1 dX11_priceOfAll_38 rfl (lv_at hl 0 rfl) ?_
  cases gOk_some hok
  exact g_iret fx hw hr dX11_priceOfAll_39
theorem dX11_buys_0 : decode cX11_buys 0 = .ok (.aload_n 0, 1) := by decide +kernel
theorem dX11_buys_1 : decode cX11_buys 1 = .ok (.iconst 0, 1) := by decide +kernel
theorem dX11_buys_2 : decode cX11_buys 2 = .ok (.putfield 3, 3) := by decide +kernel
theorem dX11_buys_5 : decode cX11_buys 5 = .ok (.aload_n 0, 1) := by decide +kernel
theorem dX11_buys_6 : decode cX11_buys 6 = .ok (.iload_n 1, 1) := by decide +kernel
theorem dX11_buys_7 : decode cX11_buys 7 = .ok (.iconst 0, 1) := by decide +kernel
theorem dX11_buys_8 : decode cX11_buys 8 = .ok (.sipush 9999, 3) := by decide +kernel
theorem dX11_buys_11 : decode cX11_buys 11 = .ok (.invokestatic 69, 3) := by decide +kernel
theorem dX11_buys_14 : decode cX11_buys 14 = .ok (.ifCond .ne 7, 3) := by decide +kernel
theorem dX11_buys_17 : decode cX11_buys 17 = .ok (.iconst 1, 1) := by decide +kernel
theorem dX11_buys_18 : decode cX11_buys 18 = .ok (.goto 4, 3) := by decide +kernel
theorem dX11_buys_21 : decode cX11_buys 21 = .ok (.iconst 0, 1) := by decide +kernel
theorem dX11_buys_22 : decode cX11_buys 22 = .ok (.iconst 1, 1) := by decide +kernel
theorem dX11_buys_23 : decode cX11_buys 23 = .ok (.invokevirtual 263, 3) := by decide +kernel
theorem dX11_buys_26 : decode cX11_buys 26 = .ok (.ifCond .eq 5, 3) := by decide +kernel
theorem dX11_buys_29 : decode cX11_buys 29 = .ok (.iconst 0, 1) := by decide +kernel
theorem dX11_buys_30 : decode cX11_buys 30 = .ok (.ireturn, 1) := by decide +kernel
theorem dX11_buys_31 : decode cX11_buys 31 = .ok (.iconst 0, 1) := by decide +kernel
theorem dX11_buys_32 : decode cX11_buys 32 = .ok (.istore_n 2, 1) := by decide +kernel
theorem dX11_buys_33 : decode cX11_buys 33 = .ok (.iconst 1, 1) := by decide +kernel
theorem dX11_buys_34 : decode cX11_buys 34 = .ok (.istore_n 3, 1) := by decide +kernel
theorem dX11_buys_35 : decode cX11_buys 35 = .ok (.iload_n 3, 1) := by decide +kernel
theorem dX11_buys_36 : decode cX11_buys 36 = .ok (.iconst 1, 1) := by decide +kernel
theorem dX11_buys_37 : decode cX11_buys 37 = .ok (.aload_n 0, 1) := by decide +kernel
theorem dX11_buys_38 : decode cX11_buys 38 = .ok (.invokevirtual 73, 3) := by decide +kernel
theorem dX11_buys_41 : decode cX11_buys 41 = .ok (.ishl, 1) := by decide +kernel
theorem dX11_buys_42 : decode cX11_buys 42 = .ok (.if_icmp .ge 37, 3) := by decide +kernel
theorem dX11_buys_45 : decode cX11_buys 45 = .ok (.aload_n 0, 1) := by decide +kernel
theorem dX11_buys_46 : decode cX11_buys 46 = .ok (.iload_n 3, 1) := by decide +kernel
theorem dX11_buys_47 : decode cX11_buys 47 = .ok (.invokevirtual 417, 3) := by decide +kernel
theorem dX11_buys_50 : decode cX11_buys 50 = .ok (.aload_n 0, 1) := by decide +kernel
theorem dX11_buys_51 : decode cX11_buys 51 = .ok (.iload_n 2, 1) := by decide +kernel
theorem dX11_buys_52 : decode cX11_buys 52 = .ok (.invokevirtual 417, 3) := by decide +kernel
theorem dX11_buys_55 : decode cX11_buys 55 = .ok (.if_icmp .le 16, 3) := by decide +kernel
theorem dX11_buys_58 : decode cX11_buys 58 = .ok (.aload_n 0, 1) := by decide +kernel
theorem dX11_buys_59 : decode cX11_buys 59 = .ok (.iload_n 3, 1) := by decide +kernel
theorem dX11_buys_60 : decode cX11_buys 60 = .ok (.invokevirtual 423, 3) := by decide +kernel
theorem dX11_buys_63 : decode cX11_buys 63 = .ok (.iload_n 1, 1) := by decide +kernel
theorem dX11_buys_64 : decode cX11_buys 64 = .ok (.if_icmp .gt 7, 3) := by decide +kernel
theorem dX11_buys_67 : decode cX11_buys 67 = .ok (.iload_n 3, 1) := by decide +kernel
theorem dX11_buys_68 : decode cX11_buys 68 = .ok (.goto 4, 3) := by decide +kernel
theorem dX11_buys_71 : decode cX11_buys 71 = .ok (.iload_n 2, 1) := by decide +kernel
theorem dX11_buys_72 : decode cX11_buys 72 = .ok (.istore_n 2, 1) := by decide +kernel
theorem dX11_buys_73 : decode cX11_buys 73 = .ok (.iinc 3 1, 3) := by decide +kernel
theorem dX11_buys_76 : decode cX11_buys 76 = .ok (.goto (-41), 3) := by decide +kernel
theorem dX11_buys_79 : decode cX11_buys 79 = .ok (.iload_n 2, 1) := by decide +kernel
theorem dX11_buys_80 : decode cX11_buys 80 = .ok (.ireturn, 1) := by decide +kernel
theorem lv_RX11_423 : gLv RX11 423 RX11 yX11_priceOfAll cX11_priceOfAll 4 (some .int) 1 := gLv_of (wA_t (wt9 (List.mem_of_getElem? (i := 59) (by decide +kernel))) (by decide +kernel)) (wA_t (wt9 (List.mem_of_getElem? (i := 61) (by decide +kernel))) (by decide +kernel)) (wA_of (List.mem_append_left _ (List.mem_map.mpr ⟨(⟨"YearRopeModel", "priceOfAll", "(I)I"⟩, 20), wp8 (List.mem_of_getElem? (i := 9) (by decide +kernel)), rfl⟩)) (by decide +kernel)) (wA_t (wt1 (List.mem_of_getElem? (i := 12) (by decide +kernel))) (by decide +kernel)) (wA_t (wt9 (List.mem_of_getElem? (i := 62) (by decide +kernel))) (by decide +kernel)) ⟨rfl, by decide +kernel, by decide +kernel, by decide +kernel⟩
def rm_X11_buys : Room := { frames := 9, cells := 0, slots := 0, locals := 208 }
def k_X11_buys_71 (τ : gτ) (n : Nat) (x0 : Nat) (x1 : Int32) (x2 : Int32) (x3 : Int32)  (G : gG) : Option ((Int32 × Int32 × gG) ⊕ ((Int32 × gG))) :=
  gLet (x3 + 1) fun v10 =>
  some (.inl (x2, v10, G))
def b_X11_buys_35 (τ : gτ) (n : Nat) (x0 : Nat) (x1 : Int32) (x2 : Int32) (x3 : Int32) (G : gG) : Option ((Int32 × Int32 × gG) ⊕ ((Int32 × gG))) :=
  (f_X11_ropes τ x0 G).bind fun v5 =>
  if ((1 : Int32) <<< (v5 &&& 31)) ≤ x3 then (some (.inr (x2, G)))
  else (gBind2 (f_X11_bearsAll τ n x0 x3 G) fun v6 G7 =>
  gBind2 (f_X11_bearsAll τ n x0 x2 G7) fun v8 G9 =>
  if v6 ≤ v8 then (k_X11_buys_71 τ n x0 x1 x2 x3  G9)
  else ((f_X11_priceOfAll τ n x0 x3 G9).bind fun v11 =>
  if x1 < v11 then (k_X11_buys_71 τ n x0 x1 x2 x3  G9)
  else (gLet (x3 + 1) fun v12 =>
  some (.inl (x3, v12, G9)))))
def l_X11_buys_35 (τ : gτ) (n : Nat) (x0 : Nat) (x1 : Int32) (x2 : Int32) (x3 : Int32) (G : gG) : Option ((Int32 × gG)) :=
  gIter (fun (q : Int32 × Int32 × gG) => b_X11_buys_35 τ n x0 x1 q.1 q.2.1 q.2.2) n (x2, x3, G)
def k_X11_buys_22 (τ : gτ) (n : Nat) (x0 : Nat) (x1 : Int32) (s0 : Nat) (s1 : Int32) (G : gG) : Option (Int32 × gG) :=
  gBind2 (f_X11_throwsIf s0 s1 (1 : Int32) G) fun v3 G4 =>
  if v3 = 0 then ((l_X11_buys_35 τ n x0 x1 (0 : Int32) (1 : Int32) G4).bind fun q => gLet q.1 fun z13 => gLet q.2 fun G14 => 
  some (z13, G14))
  else (some (0, G4))
def f_X11_buys (τ : gτ) (n : Nat) (x0 : Nat) (x1 : Int32) (G : gG) : Option (Int32 × gG) :=
  gLet (gsi G 11 0 x0 (0 : Int32)) fun G1 =>
  (f_X11_in x1 (0 : Int32) (9999 : Int32)).bind fun v2 =>
  if v2 = 0 then (k_X11_buys_22 τ n x0 x1 x0 (1 : Int32) G1)
  else (k_X11_buys_22 τ n x0 x1 x0 (0 : Int32) G1)
set_option maxHeartbeats 4000000 in
set_option maxRecDepth 100000 in
theorem w_X11_buys_71 {X : gX} {τ : gτ} {p : Program} {l : Launch} {e : Env} {s : State} {m : MethodId} {args : Array Value} {below : List Frame} {meth : Method} {c : Code} (fx : gFx X p s m args meth c cX11_buys 4 RX11) (n : Nat) (x0 : Nat) (x1 : Int32) (x2 : Int32) (x3 : Int32)  (h0 : gK τ x0 11)  {Q : State → Prop} {K : ((Int32 × Int32 × gG) ⊕ ((Int32 × gG))) → Prop} {G : gG} {H : Heap} {locs : List Loc} {ls : Array Slot} (hw : gHw X τ G H locs) (hl : lv_has ls 4 [(0, .ref x0), (1, .int x1), (2, .int x2), (3, .int x3)]) (hok : gOk (k_X11_buys_71 τ n x0 x1 x2 x3  G) K) (hc : ∀ (y2 : Int32) (y3 : Int32) (G : gG) (H : Heap) (locs : List Loc) (ls : Array Slot), gHw X τ G H locs → lv_has ls 4 [(0, .ref x0), (1, .int x1), (2, .int y2), (3, .int y3)] → K (.inl (y2, y3, G)) → W p l e rm_X11_buys s m args below meth c H locs 0 0 Q (F0 m 35 ls [])) (hx0 : ∀ (y2 : Int32) (G : gG) (H : Heap) (locs : List Loc) (ls : Array Slot), gHw X τ G H locs → lv_has ls 4 [(2, .int y2)] → K (.inr (y2, G)) → W p l e rm_X11_buys s m args below meth c H locs 0 0 Q (F0 m 79 ls [])) : W p l e rm_X11_buys s m args below meth c H locs 0 0 Q (F0 m 71 ls []) := by
  unfold k_X11_buys_71 at hok
  refine lv_iload_n fx.1 fx.2.1 dX11_buys_71 rfl (lv_at hl 2 rfl) ?_
  refine lv_istore_n (lv' := [(2, .int x2), (0, .ref x0), (1, .int x1), (3, .int x3)]) fx.1 fx.2.1 dX11_buys_72 rfl hl (by decide) rfl (fun ls hl => ?_)
  obtain ⟨v10, e_v10, hok⟩ := gOk_let hok
  refine lv_iinc (v := v10) (lv' := [(3, .int v10), (2, .int x2), (0, .ref x0), (1, .int x1)]) fx.1 fx.2.1 dX11_buys_73 hl (k := 3) rfl (by rw [e_v10]; rfl) (by decide) rfl (fun ls hl => ?_)
  refine lv_goto (tgt := 35) fx.1 fx.2.1 dX11_buys_76 (by decide) ?_
  exact hc x2 v10 G _ _ _  hw (lv_sub hl [2, 3, 1, 0] rfl) (gOk_some hok)
set_option maxHeartbeats 4000000 in
set_option maxRecDepth 100000 in
theorem w_b_X11_buys_35 {X : gX} {τ : gτ} {p : Program} {l : Launch} {e : Env} {s : State} {m : MethodId} {args : Array Value} {below : List Frame} {meth : Method} {c : Code} (fx : gFx X p s m args meth c cX11_buys 4 RX11) (n : Nat) (x0 : Nat) (x1 : Int32) (x2 : Int32) (x3 : Int32) (h0 : gK τ x0 11) {Q : State → Prop} {K : ((Int32 × Int32 × gG) ⊕ ((Int32 × gG))) → Prop} {G : gG} {H : Heap} {locs : List Loc} {ls : Array Slot} (hw : gHw X τ G H locs) (hl : lv_has ls 4 [(0, .ref x0), (1, .int x1), (2, .int x2), (3, .int x3)]) (hok : gOk (b_X11_buys_35 τ n x0 x1 x2 x3 G) K) (hc : ∀ (y2 : Int32) (y3 : Int32) (G : gG) (H : Heap) (locs : List Loc) (ls : Array Slot), gHw X τ G H locs → lv_has ls 4 [(0, .ref x0), (1, .int x1), (2, .int y2), (3, .int y3)] → K (.inl (y2, y3, G)) → W p l e rm_X11_buys s m args below meth c H locs 0 0 Q (F0 m 35 ls [])) (hx0 : ∀ (y2 : Int32) (G : gG) (H : Heap) (locs : List Loc) (ls : Array Slot), gHw X τ G H locs → lv_has ls 4 [(2, .int y2)] → K (.inr (y2, G)) → W p l e rm_X11_buys s m args below meth c H locs 0 0 Q (F0 m 79 ls [])) : W p l e rm_X11_buys s m args below meth c H locs 0 0 Q (F0 m 35 ls []) := by
  unfold b_X11_buys_35 at hok
  refine lv_iload_n fx.1 fx.2.1 dX11_buys_35 rfl (lv_at hl 3 rfl) ?_
  refine lv_iconst (v := 1) fx.1 fx.2.1 dX11_buys_36 (by decide) ?_
  refine lv_aload_n fx.1 fx.2.1 dX11_buys_37 rfl (lv_at hl 0 rfl) ?_
  obtain ⟨v5, hf, hok⟩ := gOk_bind hok
  refine g_callV0 (κ := 11) fx hw (c_X11_ropes l X τ x0 G h0 hf) lv_RX11_73 ⟨rfl, rfl⟩ rfl rfl h0 rfl hl.1 rfl ⟨Nat.le_of_ble_eq_true rfl, Nat.le_of_ble_eq_true rfl⟩ (Nat.le_of_ble_eq_true rfl) ⟨Nat.le_of_ble_eq_true rfl, Nat.le_of_ble_eq_true rfl⟩ dX11_buys_38 (fun H locs hw => ?_)
  refine lv_ishl fx.1 fx.2.1 dX11_buys_41 ?_
  refine g_icmp_ge (tgt := 79) fx dX11_buys_42 (by decide) hok (fun hok => ?_) (fun hok => ?_)
  · exact hx0 x2 G _ _ _  hw (lv_sub hl [2] rfl) (gOk_some hok)
  · refine lv_aload_n fx.1 fx.2.1 dX11_buys_45 rfl (lv_at hl 0 rfl) ?_
    refine lv_iload_n fx.1 fx.2.1 dX11_buys_46 rfl (lv_at hl 3 rfl) ?_
    obtain ⟨v6, G7, hf, hok⟩ := gOk_bind2 hok
    refine g_callV0 (κ := 11) fx hw (c_X11_bearsAll l X τ n x0 x3 G h0 hf) lv_RX11_417 ⟨rfl, rfl⟩ rfl rfl h0 rfl hl.1 rfl ⟨Nat.le_of_ble_eq_true rfl, Nat.le_of_ble_eq_true rfl⟩ (Nat.le_of_ble_eq_true rfl) ⟨Nat.le_of_ble_eq_true rfl, Nat.le_of_ble_eq_true rfl⟩ dX11_buys_47 (fun H locs hw => ?_)
    refine lv_aload_n fx.1 fx.2.1 dX11_buys_50 rfl (lv_at hl 0 rfl) ?_
    refine lv_iload_n fx.1 fx.2.1 dX11_buys_51 rfl (lv_at hl 2 rfl) ?_
    obtain ⟨v8, G9, hf, hok⟩ := gOk_bind2 hok
    refine g_callV0 (κ := 11) fx hw (c_X11_bearsAll l X τ n x0 x2 G7 h0 hf) lv_RX11_417 ⟨rfl, rfl⟩ rfl rfl h0 rfl hl.1 rfl ⟨Nat.le_of_ble_eq_true rfl, Nat.le_of_ble_eq_true rfl⟩ (Nat.le_of_ble_eq_true rfl) ⟨Nat.le_of_ble_eq_true rfl, Nat.le_of_ble_eq_true rfl⟩ dX11_buys_52 (fun H locs hw => ?_)
    refine g_icmp_le (tgt := 71) fx dX11_buys_55 (by decide) hok (fun hok => ?_) (fun hok => ?_)
    · exact w_X11_buys_71 fx n x0 x1 x2 x3  h0  hw (lv_sub hl [0, 1, 2, 3] rfl) hok hc hx0
    · refine lv_aload_n fx.1 fx.2.1 dX11_buys_58 rfl (lv_at hl 0 rfl) ?_
      refine lv_iload_n fx.1 fx.2.1 dX11_buys_59 rfl (lv_at hl 3 rfl) ?_
      obtain ⟨v11, hf, hok⟩ := gOk_bind hok
      refine g_callV0 (κ := 11) fx hw (c_X11_priceOfAll l X τ n x0 x3 G9 h0 hf) lv_RX11_423 ⟨rfl, rfl⟩ rfl rfl h0 rfl hl.1 rfl ⟨Nat.le_of_ble_eq_true rfl, Nat.le_of_ble_eq_true rfl⟩ (Nat.le_of_ble_eq_true rfl) ⟨Nat.le_of_ble_eq_true rfl, Nat.le_of_ble_eq_true rfl⟩ dX11_buys_60 (fun H locs hw => ?_)
      refine lv_iload_n fx.1 fx.2.1 dX11_buys_63 rfl (lv_at hl 1 rfl) ?_
      refine g_icmp_gt (tgt := 71) fx dX11_buys_64 (by decide) hok (fun hok => ?_) (fun hok => ?_)
      · exact w_X11_buys_71 fx n x0 x1 x2 x3  h0  hw (lv_sub hl [0, 1, 2, 3] rfl) hok hc hx0
      · refine lv_iload_n fx.1 fx.2.1 dX11_buys_67 rfl (lv_at hl 3 rfl) ?_
        refine lv_goto (tgt := 72) fx.1 fx.2.1 dX11_buys_68 (by decide) ?_
        refine lv_istore_n (lv' := [(2, .int x3), (0, .ref x0), (1, .int x1), (3, .int x3)]) fx.1 fx.2.1 dX11_buys_72 rfl hl (by decide) rfl (fun ls hl => ?_)
        obtain ⟨v12, e_v12, hok⟩ := gOk_let hok
        refine lv_iinc (v := v12) (lv' := [(3, .int v12), (2, .int x3), (0, .ref x0), (1, .int x1)]) fx.1 fx.2.1 dX11_buys_73 hl (k := 3) rfl (by rw [e_v12]; rfl) (by decide) rfl (fun ls hl => ?_)
        refine lv_goto (tgt := 35) fx.1 fx.2.1 dX11_buys_76 (by decide) ?_
        exact hc x3 v12 G9 _ _ _  hw (lv_sub hl [2, 3, 1, 0] rfl) (gOk_some hok)
theorem w_l_X11_buys_35 {X : gX} {τ : gτ} {p : Program} {l : Launch} {e : Env} {s : State} {m : MethodId} {args : Array Value} {below : List Frame} {meth : Method} {c : Code} (fx : gFx X p s m args meth c cX11_buys 4 RX11) (n : Nat) (x0 : Nat) (x1 : Int32) (h0 : gK τ x0 11) {Q : State → Prop} {K : ((Int32 × gG)) → Prop} (hx0 : ∀ (y2 : Int32) (G : gG) (H : Heap) (locs : List Loc) (ls : Array Slot), gHw X τ G H locs → lv_has ls 4 [(2, .int y2)] → K (y2, G) → W p l e rm_X11_buys s m args below meth c H locs 0 0 Q (F0 m 79 ls [])) : ∀ (k : Nat) (x2 : Int32) (x3 : Int32) (G : gG) (H : Heap) (locs : List Loc) (ls : Array Slot), gHw X τ G H locs → lv_has ls 4 [(0, .ref x0), (1, .int x1), (2, .int x2), (3, .int x3)] → gOk (gIter (fun (q : Int32 × Int32 × gG) => b_X11_buys_35 τ n x0 x1 q.1 q.2.1 q.2.2) k (x2, x3, G)) K → W p l e rm_X11_buys s m args below meth c H locs 0 0 Q (F0 m 35 ls []) := by
  intro k
  induction k with
  | zero =>
    intro x2 x3 G H locs ls hw hl hok
    exact gOk_iter0 hok
  | succ k hc =>
    intro x2 x3 G H locs ls hw hl hok
    exact w_b_X11_buys_35 fx n x0 x1 x2 x3 h0 hw hl (gOk_iter hok) hc hx0
set_option maxHeartbeats 4000000 in
set_option maxRecDepth 100000 in
theorem w_X11_buys_22 {X : gX} {τ : gτ} {p : Program} {l : Launch} {e : Env} {s : State} {m : MethodId} {args : Array Value} {below : List Frame} {meth : Method} {c : Code} (fx : gFx X p s m args meth c cX11_buys 4 RX11) (n : Nat) (x0 : Nat) (x1 : Int32) (s0 : Nat) (s1 : Int32) (h0 : gK τ x0 11) (hs0 : gK τ s0 11) (hr : meth.sig.returnType = (some .int)) {r : Int32} {G' : gG} {G : gG} {H : Heap} {locs : List Loc} {ls : Array Slot} (hw : gHw X τ G H locs) (hl : lv_has ls 4 [(0, .ref x0), (1, .int x1)]) (hok : gOk (k_X11_buys_22 τ n x0 x1 s0 s1 G) (fun q => q = (r, G')))  : W p l e rm_X11_buys s m args below meth c H locs 0 0 (MQ below (gQ X τ (some (.int r)) G') args s 0 0 (gFree X)) (F0 m 22 ls [.int s1, .ref s0]) := by
  unfold k_X11_buys_22 at hok
  refine lv_iconst (v := 1) fx.1 fx.2.1 dX11_buys_22 (by decide) ?_
  obtain ⟨v3, G4, hf, hok⟩ := gOk_bind2 hok
  refine g_callV0 (κ := 11) fx hw (c_X11_throwsIf l X τ s0 s1 (1 : Int32) G hs0 hf) lv_RX11_263 ⟨rfl, rfl⟩ rfl rfl hs0 rfl hl.1 rfl ⟨Nat.le_of_ble_eq_true rfl, Nat.le_of_ble_eq_true rfl⟩ (Nat.le_of_ble_eq_true rfl) ⟨Nat.le_of_ble_eq_true rfl, Nat.le_of_ble_eq_true rfl⟩ dX11_buys_23 (fun H locs hw => ?_)
  refine g_if_eq (tgt := 31) fx dX11_buys_26 (by decide) hok (fun hok => ?_) (fun hok => ?_)
  · refine lv_iconst (v := 0) fx.1 fx.2.1 dX11_buys_31 (by decide) ?_
    refine lv_istore_n (lv' := [(2, .int (0 : Int32)), (0, .ref x0), (1, .int x1)]) fx.1 fx.2.1 dX11_buys_32 rfl hl (by decide) rfl (fun ls hl => ?_)
    refine lv_iconst (v := 1) fx.1 fx.2.1 dX11_buys_33 (by decide) ?_
    refine lv_istore_n (lv' := [(3, .int (1 : Int32)), (2, .int (0 : Int32)), (0, .ref x0), (1, .int x1)]) fx.1 fx.2.1 dX11_buys_34 rfl hl (by decide) rfl (fun ls hl => ?_)
    refine w_l_X11_buys_35 fx n x0 x1 h0 ?_ n (0 : Int32) (1 : Int32) G4 _ _ _  hw (lv_sub hl [2, 3, 1, 0] rfl) (gOk_bindK hok)
    intro z13 G14 H locs ls hw hl hok
    have hok : gOk (ρ := Int32 × gG) (some (z13, G14)) _ := hok
    refine lv_iload_n fx.1 fx.2.1 dX11_buys_79 rfl (lv_at hl 0 rfl) ?_
    cases gOk_some hok
    exact g_iret fx hw hr dX11_buys_80
  · refine lv_iconst (v := 0) fx.1 fx.2.1 dX11_buys_29 (by decide) ?_
    cases gOk_some hok
    exact g_iret fx hw hr dX11_buys_30
set_option maxHeartbeats 4000000 in
set_option maxRecDepth 100000 in
theorem c_X11_buys (l : Launch) (X : gX) (τ : gτ) (n : Nat) (x0 : Nat) (x1 : Int32) (G : gG) (h0 : gK τ x0 11) {r : Int32} {G' : gG} (h : f_X11_buys τ n x0 x1 G = some (r, G')) : gM l X τ yX11_buys cX11_buys 4 (some .int) rm_X11_buys [.ref x0, .int x1] G (some (.int r)) G' := by
  refine g_body (by decide +kernel) (Nat.le_of_ble_eq_true rfl) ?_
  intro p e s m args below meth c ls fx hr hw hl
  have fx : gFx X p s m args meth c cX11_buys 4 RX11 := fx
  have hl : lv_has ls 4 [(0, .ref x0), (1, .int x1)] := hl
  have hok : gOk (f_X11_buys τ n x0 x1 G) (fun q => q = (r, G')) := ⟨_, h, rfl⟩
  unfold f_X11_buys at hok
  show W p l e rm_X11_buys s m args below meth c s.heap [] 0 0 (MQ below (gQ X τ (some (.int r)) G') args s 0 0 (gFree X)) _
  refine lv_aload_n fx.1 fx.2.1 dX11_buys_0 rfl (lv_at hl 0 rfl) ?_
  refine lv_iconst (v := 0) fx.1 fx.2.1 dX11_buys_1 (by decide) ?_
  refine g_puti fx hw h0 lp_RX11_3 rfl rfl dX11_buys_2 hok (fun G1 H locs hw hok => ?_)
  refine lv_aload_n fx.1 fx.2.1 dX11_buys_5 rfl (lv_at hl 0 rfl) ?_
  refine lv_iload_n fx.1 fx.2.1 dX11_buys_6 rfl (lv_at hl 1 rfl) ?_
  refine lv_iconst (v := 0) fx.1 fx.2.1 dX11_buys_7 (by decide) ?_
  refine lv_sipush (v := 9999) fx.1 fx.2.1 dX11_buys_8 (by decide) ?_
  obtain ⟨v2, hf, hok⟩ := gOk_bind hok
  refine g_callS0 fx hw (c_X11_in l X τ x1 (0 : Int32) (9999 : Int32) G1  hf) ls_RX11_69 ⟨rfl, rfl⟩ rfl hl.1 rfl ⟨Nat.le_of_ble_eq_true rfl, Nat.le_of_ble_eq_true rfl⟩ (Nat.le_of_ble_eq_true rfl) ⟨Nat.le_of_ble_eq_true rfl, Nat.le_of_ble_eq_true rfl⟩ dX11_buys_11 (fun H locs hw => ?_)
  refine g_if_ne (tgt := 21) fx dX11_buys_14 (by decide) hok (fun hok => ?_) (fun hok => ?_)
  · refine lv_iconst (v := 1) fx.1 fx.2.1 dX11_buys_17 (by decide) ?_
    refine lv_goto (tgt := 22) fx.1 fx.2.1 dX11_buys_18 (by decide) ?_
    exact w_X11_buys_22 fx n x0 x1 x0 (1 : Int32) h0 h0 hr hw (lv_sub hl [0, 1] rfl) hok
  · refine lv_iconst (v := 0) fx.1 fx.2.1 dX11_buys_21 (by decide) ?_
    exact w_X11_buys_22 fx n x0 x1 x0 (0 : Int32) h0 h0 hr hw (lv_sub hl [0, 1] rfl) hok
theorem dX11_skips_0 : decode cX11_skips 0 = .ok (.aload_n 0, 1) := by decide +kernel
theorem dX11_skips_1 : decode cX11_skips 1 = .ok (.iconst 0, 1) := by decide +kernel
theorem dX11_skips_2 : decode cX11_skips 2 = .ok (.putfield 3, 3) := by decide +kernel
theorem dX11_skips_5 : decode cX11_skips 5 = .ok (.iconst 0, 1) := by decide +kernel
theorem dX11_skips_6 : decode cX11_skips 6 = .ok (.istore_n 1, 1) := by decide +kernel
theorem dX11_skips_7 : decode cX11_skips 7 = .ok (.iconst 0, 1) := by decide +kernel
theorem dX11_skips_8 : decode cX11_skips 8 = .ok (.istore_n 2, 1) := by decide +kernel
theorem dX11_skips_9 : decode cX11_skips 9 = .ok (.iload_n 2, 1) := by decide +kernel
theorem dX11_skips_10 : decode cX11_skips 10 = .ok (.aload_n 0, 1) := by decide +kernel
theorem dX11_skips_11 : decode cX11_skips 11 = .ok (.invokevirtual 73, 3) := by decide +kernel
theorem dX11_skips_14 : decode cX11_skips 14 = .ok (.if_icmp .ge 51, 3) := by decide +kernel
theorem dX11_skips_17 : decode cX11_skips 17 = .ok (.iload_n 1, 1) := by decide +kernel
theorem dX11_skips_18 : decode cX11_skips 18 = .ok (.aload_n 0, 1) := by decide +kernel
theorem dX11_skips_19 : decode cX11_skips 19 = .ok (.iload_n 2, 1) := by decide +kernel
theorem dX11_skips_20 : decode cX11_skips 20 = .ok (.invokevirtual 146, 3) := by decide +kernel
theorem dX11_skips_23 : decode cX11_skips 23 = .ok (.ifCond .eq 33, 3) := by decide +kernel
theorem dX11_skips_26 : decode cX11_skips 26 = .ok (.aload_n 0, 1) := by decide +kernel
theorem dX11_skips_27 : decode cX11_skips 27 = .ok (.iload_n 2, 1) := by decide +kernel
theorem dX11_skips_28 : decode cX11_skips 28 = .ok (.bipush 9, 2) := by decide +kernel
theorem dX11_skips_30 : decode cX11_skips 30 = .ok (.invokevirtual 62, 3) := by decide +kernel
theorem dX11_skips_33 : decode cX11_skips 33 = .ok (.ifCond .ne 23, 3) := by decide +kernel
theorem dX11_skips_36 : decode cX11_skips 36 = .ok (.aload_n 0, 1) := by decide +kernel
theorem dX11_skips_37 : decode cX11_skips 37 = .ok (.iload_n 2, 1) := by decide +kernel
theorem dX11_skips_38 : decode cX11_skips 38 = .ok (.iconst 3, 1) := by decide +kernel
theorem dX11_skips_39 : decode cX11_skips 39 = .ok (.invokevirtual 62, 3) := by decide +kernel
theorem dX11_skips_42 : decode cX11_skips 42 = .ok (.iconst 2, 1) := by decide +kernel
theorem dX11_skips_43 : decode cX11_skips 43 = .ok (.iconst 5, 1) := by decide +kernel
theorem dX11_skips_44 : decode cX11_skips 44 = .ok (.invokestatic 69, 3) := by decide +kernel
theorem dX11_skips_47 : decode cX11_skips 47 = .ok (.ifCond .eq 9, 3) := by decide +kernel
theorem dX11_skips_50 : decode cX11_skips 50 = .ok (.iconst 1, 1) := by decide +kernel
theorem dX11_skips_51 : decode cX11_skips 51 = .ok (.iload_n 2, 1) := by decide +kernel
theorem dX11_skips_52 : decode cX11_skips 52 = .ok (.ishl, 1) := by decide +kernel
theorem dX11_skips_53 : decode cX11_skips 53 = .ok (.goto 4, 3) := by decide +kernel
theorem dX11_skips_56 : decode cX11_skips 56 = .ok (.iconst 0, 1) := by decide +kernel
theorem dX11_skips_57 : decode cX11_skips 57 = .ok (.ior, 1) := by decide +kernel
theorem dX11_skips_58 : decode cX11_skips 58 = .ok (.istore_n 1, 1) := by decide +kernel
theorem dX11_skips_59 : decode cX11_skips 59 = .ok (.iinc 2 1, 3) := by decide +kernel
theorem dX11_skips_62 : decode cX11_skips 62 = .ok (.goto (-53), 3) := by decide +kernel
theorem dX11_skips_65 : decode cX11_skips 65 = .ok (.iload_n 1, 1) := by decide +kernel
theorem dX11_skips_66 : decode cX11_skips 66 = .ok (.ireturn, 1) := by decide +kernel
def rm_X11_skips : Room := { frames := 3, cells := 0, slots := 0, locals := 64 }
def k_X11_skips_57 (τ : gτ) (n : Nat) (x0 : Nat) (x2 : Int32) (s0 : Int32) (s1 : Int32) (G : gG) : Option ((Int32 × Int32) ⊕ ((Int32))) :=
  gLet (s0 ||| s1) fun v4 =>
  gLet (x2 + 1) fun v5 =>
  some (.inl (v4, v5))
def k_X11_skips_56 (τ : gτ) (n : Nat) (x0 : Nat) (x2 : Int32) (s0 : Int32) (G : gG) : Option ((Int32 × Int32) ⊕ ((Int32))) :=
  k_X11_skips_57 τ n x0 x2 s0 (0 : Int32) G
def b_X11_skips_9 (τ : gτ) (n : Nat) (x0 : Nat) (x1 : Int32) (x2 : Int32) (G : gG) : Option ((Int32 × Int32) ⊕ ((Int32))) :=
  (f_X11_ropes τ x0 G).bind fun v2 =>
  if v2 ≤ x2 then (some (.inr x1))
  else ((f_X11_isWhole τ x0 x2 G).bind fun v3 =>
  if v3 = 0 then (k_X11_skips_56 τ n x0 x2 x1 G)
  else ((f_X11_of τ x0 x2 (9 : Int32) G).bind fun v6 =>
  if v6 = 0 then ((f_X11_of τ x0 x2 (3 : Int32) G).bind fun v7 =>
  (f_X11_in v7 (2 : Int32) (5 : Int32)).bind fun v8 =>
  if v8 = 0 then (k_X11_skips_56 τ n x0 x2 x1 G)
  else (k_X11_skips_57 τ n x0 x2 x1 ((1 : Int32) <<< (x2 &&& 31)) G))
  else (k_X11_skips_56 τ n x0 x2 x1 G)))
def l_X11_skips_9 (τ : gτ) (n : Nat) (x0 : Nat) (x1 : Int32) (x2 : Int32) (G : gG) : Option ((Int32)) :=
  gIter (fun (q : Int32 × Int32) => b_X11_skips_9 τ n x0 q.1 q.2 G) n (x1, x2)
def f_X11_skips (τ : gτ) (n : Nat) (x0 : Nat) (G : gG) : Option (Int32 × gG) :=
  gLet (gsi G 11 0 x0 (0 : Int32)) fun G1 =>
  (l_X11_skips_9 τ n x0 (0 : Int32) (0 : Int32) G1).bind fun q => gLet q fun z9 => 
  some (z9, G1)
set_option maxHeartbeats 4000000 in
set_option maxRecDepth 100000 in
theorem w_X11_skips_57 {X : gX} {τ : gτ} {p : Program} {l : Launch} {e : Env} {s : State} {m : MethodId} {args : Array Value} {below : List Frame} {meth : Method} {c : Code} (fx : gFx X p s m args meth c cX11_skips 3 RX11) (n : Nat) (x0 : Nat) (x2 : Int32) (s0 : Int32) (s1 : Int32) (h0 : gK τ x0 11)  {Q : State → Prop} {K : ((Int32 × Int32) ⊕ ((Int32))) → Prop} {G : gG} {H : Heap} {locs : List Loc} {ls : Array Slot} (hw : gHw X τ G H locs) (hl : lv_has ls 3 [(0, .ref x0), (2, .int x2)]) (hok : gOk (k_X11_skips_57 τ n x0 x2 s0 s1 G) K) (hc : ∀ (y1 : Int32) (y2 : Int32) (H : Heap) (locs : List Loc) (ls : Array Slot), gHw X τ G H locs → lv_has ls 3 [(0, .ref x0), (1, .int y1), (2, .int y2)] → K (.inl (y1, y2)) → W p l e rm_X11_skips s m args below meth c H locs 0 0 Q (F0 m 9 ls [])) (hx0 : ∀ (y1 : Int32) (H : Heap) (locs : List Loc) (ls : Array Slot), gHw X τ G H locs → lv_has ls 3 [(1, .int y1)] → K (.inr y1) → W p l e rm_X11_skips s m args below meth c H locs 0 0 Q (F0 m 65 ls [])) : W p l e rm_X11_skips s m args below meth c H locs 0 0 Q (F0 m 57 ls [.int s1, .int s0]) := by
  unfold k_X11_skips_57 at hok
  refine lv_ior fx.1 fx.2.1 dX11_skips_57 ?_
  refine g_leti hok (fun v4 hok => ?_)
  refine lv_istore_n (lv' := [(1, .int v4), (0, .ref x0), (2, .int x2)]) fx.1 fx.2.1 dX11_skips_58 rfl hl (by decide) rfl (fun ls hl => ?_)
  obtain ⟨v5, e_v5, hok⟩ := gOk_let hok
  refine lv_iinc (v := v5) (lv' := [(2, .int v5), (1, .int v4), (0, .ref x0)]) fx.1 fx.2.1 dX11_skips_59 hl (k := 2) rfl (by rw [e_v5]; rfl) (by decide) rfl (fun ls hl => ?_)
  refine lv_goto (tgt := 9) fx.1 fx.2.1 dX11_skips_62 (by decide) ?_
  exact hc v4 v5  _ _ _  hw (lv_sub hl [2, 1, 0] rfl) (gOk_some hok)
set_option maxHeartbeats 4000000 in
set_option maxRecDepth 100000 in
theorem w_X11_skips_56 {X : gX} {τ : gτ} {p : Program} {l : Launch} {e : Env} {s : State} {m : MethodId} {args : Array Value} {below : List Frame} {meth : Method} {c : Code} (fx : gFx X p s m args meth c cX11_skips 3 RX11) (n : Nat) (x0 : Nat) (x2 : Int32) (s0 : Int32) (h0 : gK τ x0 11)  {Q : State → Prop} {K : ((Int32 × Int32) ⊕ ((Int32))) → Prop} {G : gG} {H : Heap} {locs : List Loc} {ls : Array Slot} (hw : gHw X τ G H locs) (hl : lv_has ls 3 [(0, .ref x0), (2, .int x2)]) (hok : gOk (k_X11_skips_56 τ n x0 x2 s0 G) K) (hc : ∀ (y1 : Int32) (y2 : Int32) (H : Heap) (locs : List Loc) (ls : Array Slot), gHw X τ G H locs → lv_has ls 3 [(0, .ref x0), (1, .int y1), (2, .int y2)] → K (.inl (y1, y2)) → W p l e rm_X11_skips s m args below meth c H locs 0 0 Q (F0 m 9 ls [])) (hx0 : ∀ (y1 : Int32) (H : Heap) (locs : List Loc) (ls : Array Slot), gHw X τ G H locs → lv_has ls 3 [(1, .int y1)] → K (.inr y1) → W p l e rm_X11_skips s m args below meth c H locs 0 0 Q (F0 m 65 ls [])) : W p l e rm_X11_skips s m args below meth c H locs 0 0 Q (F0 m 56 ls [.int s0]) := by
  unfold k_X11_skips_56 at hok
  refine lv_iconst (v := 0) fx.1 fx.2.1 dX11_skips_56 (by decide) ?_
  exact w_X11_skips_57 fx n x0 x2 s0 (0 : Int32) h0  hw (lv_sub hl [0, 1] rfl) hok hc hx0
set_option maxHeartbeats 4000000 in
set_option maxRecDepth 100000 in
theorem w_b_X11_skips_9 {X : gX} {τ : gτ} {p : Program} {l : Launch} {e : Env} {s : State} {m : MethodId} {args : Array Value} {below : List Frame} {meth : Method} {c : Code} (fx : gFx X p s m args meth c cX11_skips 3 RX11) (n : Nat) (x0 : Nat) (x1 : Int32) (x2 : Int32) (h0 : gK τ x0 11) {Q : State → Prop} {K : ((Int32 × Int32) ⊕ ((Int32))) → Prop} {G : gG} {H : Heap} {locs : List Loc} {ls : Array Slot} (hw : gHw X τ G H locs) (hl : lv_has ls 3 [(0, .ref x0), (1, .int x1), (2, .int x2)]) (hok : gOk (b_X11_skips_9 τ n x0 x1 x2 G) K) (hc : ∀ (y1 : Int32) (y2 : Int32) (H : Heap) (locs : List Loc) (ls : Array Slot), gHw X τ G H locs → lv_has ls 3 [(0, .ref x0), (1, .int y1), (2, .int y2)] → K (.inl (y1, y2)) → W p l e rm_X11_skips s m args below meth c H locs 0 0 Q (F0 m 9 ls [])) (hx0 : ∀ (y1 : Int32) (H : Heap) (locs : List Loc) (ls : Array Slot), gHw X τ G H locs → lv_has ls 3 [(1, .int y1)] → K (.inr y1) → W p l e rm_X11_skips s m args below meth c H locs 0 0 Q (F0 m 65 ls [])) : W p l e rm_X11_skips s m args below meth c H locs 0 0 Q (F0 m 9 ls []) := by
  unfold b_X11_skips_9 at hok
  refine lv_iload_n fx.1 fx.2.1 dX11_skips_9 rfl (lv_at hl 2 rfl) ?_
  refine lv_aload_n fx.1 fx.2.1 dX11_skips_10 rfl (lv_at hl 0 rfl) ?_
  obtain ⟨v2, hf, hok⟩ := gOk_bind hok
  refine g_callV0 (κ := 11) fx hw (c_X11_ropes l X τ x0 G h0 hf) lv_RX11_73 ⟨rfl, rfl⟩ rfl rfl h0 rfl hl.1 rfl ⟨Nat.le_of_ble_eq_true rfl, Nat.le_of_ble_eq_true rfl⟩ (Nat.le_of_ble_eq_true rfl) ⟨Nat.le_of_ble_eq_true rfl, Nat.le_of_ble_eq_true rfl⟩ dX11_skips_11 (fun H locs hw => ?_)
  refine g_icmp_ge (tgt := 65) fx dX11_skips_14 (by decide) hok (fun hok => ?_) (fun hok => ?_)
  · exact hx0 x1  _ _ _  hw (lv_sub hl [1] rfl) (gOk_some hok)
  · refine lv_iload_n fx.1 fx.2.1 dX11_skips_17 rfl (lv_at hl 1 rfl) ?_
    refine lv_aload_n fx.1 fx.2.1 dX11_skips_18 rfl (lv_at hl 0 rfl) ?_
    refine lv_iload_n fx.1 fx.2.1 dX11_skips_19 rfl (lv_at hl 2 rfl) ?_
    obtain ⟨v3, hf, hok⟩ := gOk_bind hok
    refine g_callV0 (κ := 11) fx hw (c_X11_isWhole l X τ x0 x2 G h0 hf) lv_RX11_146 ⟨rfl, rfl⟩ rfl rfl h0 rfl hl.1 rfl ⟨Nat.le_of_ble_eq_true rfl, Nat.le_of_ble_eq_true rfl⟩ (Nat.le_of_ble_eq_true rfl) ⟨Nat.le_of_ble_eq_true rfl, Nat.le_of_ble_eq_true rfl⟩ dX11_skips_20 (fun H locs hw => ?_)
    refine g_if_eq (tgt := 56) fx dX11_skips_23 (by decide) hok (fun hok => ?_) (fun hok => ?_)
    · exact w_X11_skips_56 fx n x0 x2 x1 h0  hw (lv_sub hl [0, 2] rfl) hok hc hx0
    · refine lv_aload_n fx.1 fx.2.1 dX11_skips_26 rfl (lv_at hl 0 rfl) ?_
      refine lv_iload_n fx.1 fx.2.1 dX11_skips_27 rfl (lv_at hl 2 rfl) ?_
      refine lv_bipush (v := 9) fx.1 fx.2.1 dX11_skips_28 (by decide) ?_
      obtain ⟨v6, hf, hok⟩ := gOk_bind hok
      refine g_callV0 (κ := 11) fx hw (c_X11_of l X τ x0 x2 (9 : Int32) G h0 hf) lv_RX11_62 ⟨rfl, rfl⟩ rfl rfl h0 rfl hl.1 rfl ⟨Nat.le_of_ble_eq_true rfl, Nat.le_of_ble_eq_true rfl⟩ (Nat.le_of_ble_eq_true rfl) ⟨Nat.le_of_ble_eq_true rfl, Nat.le_of_ble_eq_true rfl⟩ dX11_skips_30 (fun H locs hw => ?_)
      refine g_if_ne (tgt := 56) fx dX11_skips_33 (by decide) hok (fun hok => ?_) (fun hok => ?_)
      · refine lv_aload_n fx.1 fx.2.1 dX11_skips_36 rfl (lv_at hl 0 rfl) ?_
        refine lv_iload_n fx.1 fx.2.1 dX11_skips_37 rfl (lv_at hl 2 rfl) ?_
        refine lv_iconst (v := 3) fx.1 fx.2.1 dX11_skips_38 (by decide) ?_
        obtain ⟨v7, hf, hok⟩ := gOk_bind hok
        refine g_callV0 (κ := 11) fx hw (c_X11_of l X τ x0 x2 (3 : Int32) G h0 hf) lv_RX11_62 ⟨rfl, rfl⟩ rfl rfl h0 rfl hl.1 rfl ⟨Nat.le_of_ble_eq_true rfl, Nat.le_of_ble_eq_true rfl⟩ (Nat.le_of_ble_eq_true rfl) ⟨Nat.le_of_ble_eq_true rfl, Nat.le_of_ble_eq_true rfl⟩ dX11_skips_39 (fun H locs hw => ?_)
        refine lv_iconst (v := 2) fx.1 fx.2.1 dX11_skips_42 (by decide) ?_
        refine lv_iconst (v := 5) fx.1 fx.2.1 dX11_skips_43 (by decide) ?_
        obtain ⟨v8, hf, hok⟩ := gOk_bind hok
        refine g_callS0 fx hw (c_X11_in l X τ v7 (2 : Int32) (5 : Int32) G  hf) ls_RX11_69 ⟨rfl, rfl⟩ rfl hl.1 rfl ⟨Nat.le_of_ble_eq_true rfl, Nat.le_of_ble_eq_true rfl⟩ (Nat.le_of_ble_eq_true rfl) ⟨Nat.le_of_ble_eq_true rfl, Nat.le_of_ble_eq_true rfl⟩ dX11_skips_44 (fun H locs hw => ?_)
        refine g_if_eq (tgt := 56) fx dX11_skips_47 (by decide) hok (fun hok => ?_) (fun hok => ?_)
        · exact w_X11_skips_56 fx n x0 x2 x1 h0  hw (lv_sub hl [0, 2] rfl) hok hc hx0
        · refine lv_iconst (v := 1) fx.1 fx.2.1 dX11_skips_50 (by decide) ?_
          refine lv_iload_n fx.1 fx.2.1 dX11_skips_51 rfl (lv_at hl 2 rfl) ?_
          refine lv_ishl fx.1 fx.2.1 dX11_skips_52 ?_
          refine lv_goto (tgt := 57) fx.1 fx.2.1 dX11_skips_53 (by decide) ?_
          exact w_X11_skips_57 fx n x0 x2 x1 ((1 : Int32) <<< (x2 &&& 31)) h0  hw (lv_sub hl [0, 2] rfl) hok hc hx0
      · exact w_X11_skips_56 fx n x0 x2 x1 h0  hw (lv_sub hl [0, 2] rfl) hok hc hx0
theorem w_l_X11_skips_9 {X : gX} {τ : gτ} {p : Program} {l : Launch} {e : Env} {s : State} {m : MethodId} {args : Array Value} {below : List Frame} {meth : Method} {c : Code} (fx : gFx X p s m args meth c cX11_skips 3 RX11) (n : Nat) (x0 : Nat) (h0 : gK τ x0 11) (G : gG) {Q : State → Prop} {K : ((Int32)) → Prop} (hx0 : ∀ (y1 : Int32) (H : Heap) (locs : List Loc) (ls : Array Slot), gHw X τ G H locs → lv_has ls 3 [(1, .int y1)] → K y1 → W p l e rm_X11_skips s m args below meth c H locs 0 0 Q (F0 m 65 ls [])) : ∀ (k : Nat) (x1 : Int32) (x2 : Int32) (H : Heap) (locs : List Loc) (ls : Array Slot), gHw X τ G H locs → lv_has ls 3 [(0, .ref x0), (1, .int x1), (2, .int x2)] → gOk (gIter (fun (q : Int32 × Int32) => b_X11_skips_9 τ n x0 q.1 q.2 G) k (x1, x2)) K → W p l e rm_X11_skips s m args below meth c H locs 0 0 Q (F0 m 9 ls []) := by
  intro k
  induction k with
  | zero =>
    intro x1 x2  H locs ls hw hl hok
    exact gOk_iter0 hok
  | succ k hc =>
    intro x1 x2  H locs ls hw hl hok
    exact w_b_X11_skips_9 fx n x0 x1 x2 h0 hw hl (gOk_iter hok) hc hx0
set_option maxHeartbeats 4000000 in
set_option maxRecDepth 100000 in
theorem c_X11_skips (l : Launch) (X : gX) (τ : gτ) (n : Nat) (x0 : Nat) (G : gG) (h0 : gK τ x0 11) {r : Int32} {G' : gG} (h : f_X11_skips τ n x0 G = some (r, G')) : gM l X τ yX11_skips cX11_skips 3 (some .int) rm_X11_skips [.ref x0] G (some (.int r)) G' := by
  refine g_body (by decide +kernel) (Nat.le_of_ble_eq_true rfl) ?_
  intro p e s m args below meth c ls fx hr hw hl
  have fx : gFx X p s m args meth c cX11_skips 3 RX11 := fx
  have hl : lv_has ls 3 [(0, .ref x0)] := hl
  have hok : gOk (f_X11_skips τ n x0 G) (fun q => q = (r, G')) := ⟨_, h, rfl⟩
  unfold f_X11_skips at hok
  show W p l e rm_X11_skips s m args below meth c s.heap [] 0 0 (MQ below (gQ X τ (some (.int r)) G') args s 0 0 (gFree X)) _
  refine lv_aload_n fx.1 fx.2.1 dX11_skips_0 rfl (lv_at hl 0 rfl) ?_
  refine lv_iconst (v := 0) fx.1 fx.2.1 dX11_skips_1 (by decide) ?_
  refine g_puti fx hw h0 lp_RX11_3 rfl rfl dX11_skips_2 hok (fun G1 H locs hw hok => ?_)
  refine lv_iconst (v := 0) fx.1 fx.2.1 dX11_skips_5 (by decide) ?_
  refine lv_istore_n (lv' := [(1, .int (0 : Int32)), (0, .ref x0)]) fx.1 fx.2.1 dX11_skips_6 rfl hl (by decide) rfl (fun ls hl => ?_)
  refine lv_iconst (v := 0) fx.1 fx.2.1 dX11_skips_7 (by decide) ?_
  refine lv_istore_n (lv' := [(2, .int (0 : Int32)), (1, .int (0 : Int32)), (0, .ref x0)]) fx.1 fx.2.1 dX11_skips_8 rfl hl (by decide) rfl (fun ls hl => ?_)
  refine w_l_X11_skips_9 fx n x0 h0 G1 ?_ n (0 : Int32) (0 : Int32)  _ _ _  hw (lv_sub hl [2, 1, 0] rfl) (gOk_bindK hok)
  intro z9  H locs ls hw hl hok
  have hok : gOk (ρ := Int32 × gG) (some (z9, G1)) _ := hok
  refine lv_iload_n fx.1 fx.2.1 dX11_skips_65 rfl (lv_at hl 0 rfl) ?_
  cases gOk_some hok
  exact g_iret fx hw hr dX11_skips_66
theorem dX11_loose_0 : decode cX11_loose 0 = .ok (.aload_n 0, 1) := by decide +kernel
theorem dX11_loose_1 : decode cX11_loose 1 = .ok (.iconst 0, 1) := by decide +kernel
theorem dX11_loose_2 : decode cX11_loose 2 = .ok (.putfield 3, 3) := by decide +kernel
theorem dX11_loose_5 : decode cX11_loose 5 = .ok (.iconst 0, 1) := by decide +kernel
theorem dX11_loose_6 : decode cX11_loose 6 = .ok (.istore_n 1, 1) := by decide +kernel
theorem dX11_loose_7 : decode cX11_loose 7 = .ok (.iconst 0, 1) := by decide +kernel
theorem dX11_loose_8 : decode cX11_loose 8 = .ok (.istore_n 2, 1) := by decide +kernel
theorem dX11_loose_9 : decode cX11_loose 9 = .ok (.iload_n 2, 1) := by decide +kernel
theorem dX11_loose_10 : decode cX11_loose 10 = .ok (.aload_n 0, 1) := by decide +kernel
theorem dX11_loose_11 : decode cX11_loose 11 = .ok (.invokevirtual 73, 3) := by decide +kernel
theorem dX11_loose_14 : decode cX11_loose 14 = .ok (.if_icmp .ge 37, 3) := by decide +kernel
theorem dX11_loose_17 : decode cX11_loose 17 = .ok (.iload_n 1, 1) := by decide +kernel
theorem dX11_loose_18 : decode cX11_loose 18 = .ok (.aload_n 0, 1) := by decide +kernel
theorem dX11_loose_19 : decode cX11_loose 19 = .ok (.iload_n 2, 1) := by decide +kernel
theorem dX11_loose_20 : decode cX11_loose 20 = .ok (.invokevirtual 146, 3) := by decide +kernel
theorem dX11_loose_23 : decode cX11_loose 23 = .ok (.ifCond .eq 19, 3) := by decide +kernel
theorem dX11_loose_26 : decode cX11_loose 26 = .ok (.aload_n 0, 1) := by decide +kernel
theorem dX11_loose_27 : decode cX11_loose 27 = .ok (.iload_n 2, 1) := by decide +kernel
theorem dX11_loose_28 : decode cX11_loose 28 = .ok (.bipush 6, 2) := by decide +kernel
theorem dX11_loose_30 : decode cX11_loose 30 = .ok (.invokevirtual 62, 3) := by decide +kernel
theorem dX11_loose_33 : decode cX11_loose 33 = .ok (.ifCond .ne 9, 3) := by decide +kernel
theorem dX11_loose_36 : decode cX11_loose 36 = .ok (.iconst 1, 1) := by decide +kernel
theorem dX11_loose_37 : decode cX11_loose 37 = .ok (.iload_n 2, 1) := by decide +kernel
theorem dX11_loose_38 : decode cX11_loose 38 = .ok (.ishl, 1) := by decide +kernel
theorem dX11_loose_39 : decode cX11_loose 39 = .ok (.goto 4, 3) := by decide +kernel
theorem dX11_loose_42 : decode cX11_loose 42 = .ok (.iconst 0, 1) := by decide +kernel
theorem dX11_loose_43 : decode cX11_loose 43 = .ok (.ior, 1) := by decide +kernel
theorem dX11_loose_44 : decode cX11_loose 44 = .ok (.istore_n 1, 1) := by decide +kernel
theorem dX11_loose_45 : decode cX11_loose 45 = .ok (.iinc 2 1, 3) := by decide +kernel
theorem dX11_loose_48 : decode cX11_loose 48 = .ok (.goto (-39), 3) := by decide +kernel
theorem dX11_loose_51 : decode cX11_loose 51 = .ok (.iload_n 1, 1) := by decide +kernel
theorem dX11_loose_52 : decode cX11_loose 52 = .ok (.ireturn, 1) := by decide +kernel
def rm_X11_loose : Room := { frames := 3, cells := 0, slots := 0, locals := 64 }
def k_X11_loose_43 (τ : gτ) (n : Nat) (x0 : Nat) (x2 : Int32) (s0 : Int32) (s1 : Int32) (G : gG) : Option ((Int32 × Int32) ⊕ ((Int32))) :=
  gLet (s0 ||| s1) fun v4 =>
  gLet (x2 + 1) fun v5 =>
  some (.inl (v4, v5))
def k_X11_loose_42 (τ : gτ) (n : Nat) (x0 : Nat) (x2 : Int32) (s0 : Int32) (G : gG) : Option ((Int32 × Int32) ⊕ ((Int32))) :=
  k_X11_loose_43 τ n x0 x2 s0 (0 : Int32) G
def b_X11_loose_9 (τ : gτ) (n : Nat) (x0 : Nat) (x1 : Int32) (x2 : Int32) (G : gG) : Option ((Int32 × Int32) ⊕ ((Int32))) :=
  (f_X11_ropes τ x0 G).bind fun v2 =>
  if v2 ≤ x2 then (some (.inr x1))
  else ((f_X11_isWhole τ x0 x2 G).bind fun v3 =>
  if v3 = 0 then (k_X11_loose_42 τ n x0 x2 x1 G)
  else ((f_X11_of τ x0 x2 (6 : Int32) G).bind fun v6 =>
  if v6 = 0 then (k_X11_loose_43 τ n x0 x2 x1 ((1 : Int32) <<< (x2 &&& 31)) G)
  else (k_X11_loose_42 τ n x0 x2 x1 G)))
def l_X11_loose_9 (τ : gτ) (n : Nat) (x0 : Nat) (x1 : Int32) (x2 : Int32) (G : gG) : Option ((Int32)) :=
  gIter (fun (q : Int32 × Int32) => b_X11_loose_9 τ n x0 q.1 q.2 G) n (x1, x2)
def f_X11_loose (τ : gτ) (n : Nat) (x0 : Nat) (G : gG) : Option (Int32 × gG) :=
  gLet (gsi G 11 0 x0 (0 : Int32)) fun G1 =>
  (l_X11_loose_9 τ n x0 (0 : Int32) (0 : Int32) G1).bind fun q => gLet q fun z7 => 
  some (z7, G1)
set_option maxHeartbeats 4000000 in
set_option maxRecDepth 100000 in
theorem w_X11_loose_43 {X : gX} {τ : gτ} {p : Program} {l : Launch} {e : Env} {s : State} {m : MethodId} {args : Array Value} {below : List Frame} {meth : Method} {c : Code} (fx : gFx X p s m args meth c cX11_loose 3 RX11) (n : Nat) (x0 : Nat) (x2 : Int32) (s0 : Int32) (s1 : Int32) (h0 : gK τ x0 11)  {Q : State → Prop} {K : ((Int32 × Int32) ⊕ ((Int32))) → Prop} {G : gG} {H : Heap} {locs : List Loc} {ls : Array Slot} (hw : gHw X τ G H locs) (hl : lv_has ls 3 [(0, .ref x0), (2, .int x2)]) (hok : gOk (k_X11_loose_43 τ n x0 x2 s0 s1 G) K) (hc : ∀ (y1 : Int32) (y2 : Int32) (H : Heap) (locs : List Loc) (ls : Array Slot), gHw X τ G H locs → lv_has ls 3 [(0, .ref x0), (1, .int y1), (2, .int y2)] → K (.inl (y1, y2)) → W p l e rm_X11_loose s m args below meth c H locs 0 0 Q (F0 m 9 ls [])) (hx0 : ∀ (y1 : Int32) (H : Heap) (locs : List Loc) (ls : Array Slot), gHw X τ G H locs → lv_has ls 3 [(1, .int y1)] → K (.inr y1) → W p l e rm_X11_loose s m args below meth c H locs 0 0 Q (F0 m 51 ls [])) : W p l e rm_X11_loose s m args below meth c H locs 0 0 Q (F0 m 43 ls [.int s1, .int s0]) := by
  unfold k_X11_loose_43 at hok
  refine lv_ior fx.1 fx.2.1 dX11_loose_43 ?_
  refine g_leti hok (fun v4 hok => ?_)
  refine lv_istore_n (lv' := [(1, .int v4), (0, .ref x0), (2, .int x2)]) fx.1 fx.2.1 dX11_loose_44 rfl hl (by decide) rfl (fun ls hl => ?_)
  obtain ⟨v5, e_v5, hok⟩ := gOk_let hok
  refine lv_iinc (v := v5) (lv' := [(2, .int v5), (1, .int v4), (0, .ref x0)]) fx.1 fx.2.1 dX11_loose_45 hl (k := 2) rfl (by rw [e_v5]; rfl) (by decide) rfl (fun ls hl => ?_)
  refine lv_goto (tgt := 9) fx.1 fx.2.1 dX11_loose_48 (by decide) ?_
  exact hc v4 v5  _ _ _  hw (lv_sub hl [2, 1, 0] rfl) (gOk_some hok)
set_option maxHeartbeats 4000000 in
set_option maxRecDepth 100000 in
theorem w_X11_loose_42 {X : gX} {τ : gτ} {p : Program} {l : Launch} {e : Env} {s : State} {m : MethodId} {args : Array Value} {below : List Frame} {meth : Method} {c : Code} (fx : gFx X p s m args meth c cX11_loose 3 RX11) (n : Nat) (x0 : Nat) (x2 : Int32) (s0 : Int32) (h0 : gK τ x0 11)  {Q : State → Prop} {K : ((Int32 × Int32) ⊕ ((Int32))) → Prop} {G : gG} {H : Heap} {locs : List Loc} {ls : Array Slot} (hw : gHw X τ G H locs) (hl : lv_has ls 3 [(0, .ref x0), (2, .int x2)]) (hok : gOk (k_X11_loose_42 τ n x0 x2 s0 G) K) (hc : ∀ (y1 : Int32) (y2 : Int32) (H : Heap) (locs : List Loc) (ls : Array Slot), gHw X τ G H locs → lv_has ls 3 [(0, .ref x0), (1, .int y1), (2, .int y2)] → K (.inl (y1, y2)) → W p l e rm_X11_loose s m args below meth c H locs 0 0 Q (F0 m 9 ls [])) (hx0 : ∀ (y1 : Int32) (H : Heap) (locs : List Loc) (ls : Array Slot), gHw X τ G H locs → lv_has ls 3 [(1, .int y1)] → K (.inr y1) → W p l e rm_X11_loose s m args below meth c H locs 0 0 Q (F0 m 51 ls [])) : W p l e rm_X11_loose s m args below meth c H locs 0 0 Q (F0 m 42 ls [.int s0]) := by
  unfold k_X11_loose_42 at hok
  refine lv_iconst (v := 0) fx.1 fx.2.1 dX11_loose_42 (by decide) ?_
  exact w_X11_loose_43 fx n x0 x2 s0 (0 : Int32) h0  hw (lv_sub hl [0, 1] rfl) hok hc hx0
set_option maxHeartbeats 4000000 in
set_option maxRecDepth 100000 in
theorem w_b_X11_loose_9 {X : gX} {τ : gτ} {p : Program} {l : Launch} {e : Env} {s : State} {m : MethodId} {args : Array Value} {below : List Frame} {meth : Method} {c : Code} (fx : gFx X p s m args meth c cX11_loose 3 RX11) (n : Nat) (x0 : Nat) (x1 : Int32) (x2 : Int32) (h0 : gK τ x0 11) {Q : State → Prop} {K : ((Int32 × Int32) ⊕ ((Int32))) → Prop} {G : gG} {H : Heap} {locs : List Loc} {ls : Array Slot} (hw : gHw X τ G H locs) (hl : lv_has ls 3 [(0, .ref x0), (1, .int x1), (2, .int x2)]) (hok : gOk (b_X11_loose_9 τ n x0 x1 x2 G) K) (hc : ∀ (y1 : Int32) (y2 : Int32) (H : Heap) (locs : List Loc) (ls : Array Slot), gHw X τ G H locs → lv_has ls 3 [(0, .ref x0), (1, .int y1), (2, .int y2)] → K (.inl (y1, y2)) → W p l e rm_X11_loose s m args below meth c H locs 0 0 Q (F0 m 9 ls [])) (hx0 : ∀ (y1 : Int32) (H : Heap) (locs : List Loc) (ls : Array Slot), gHw X τ G H locs → lv_has ls 3 [(1, .int y1)] → K (.inr y1) → W p l e rm_X11_loose s m args below meth c H locs 0 0 Q (F0 m 51 ls [])) : W p l e rm_X11_loose s m args below meth c H locs 0 0 Q (F0 m 9 ls []) := by
  unfold b_X11_loose_9 at hok
  refine lv_iload_n fx.1 fx.2.1 dX11_loose_9 rfl (lv_at hl 2 rfl) ?_
  refine lv_aload_n fx.1 fx.2.1 dX11_loose_10 rfl (lv_at hl 0 rfl) ?_
  obtain ⟨v2, hf, hok⟩ := gOk_bind hok
  refine g_callV0 (κ := 11) fx hw (c_X11_ropes l X τ x0 G h0 hf) lv_RX11_73 ⟨rfl, rfl⟩ rfl rfl h0 rfl hl.1 rfl ⟨Nat.le_of_ble_eq_true rfl, Nat.le_of_ble_eq_true rfl⟩ (Nat.le_of_ble_eq_true rfl) ⟨Nat.le_of_ble_eq_true rfl, Nat.le_of_ble_eq_true rfl⟩ dX11_loose_11 (fun H locs hw => ?_)
  refine g_icmp_ge (tgt := 51) fx dX11_loose_14 (by decide) hok (fun hok => ?_) (fun hok => ?_)
  · exact hx0 x1  _ _ _  hw (lv_sub hl [1] rfl) (gOk_some hok)
  · refine lv_iload_n fx.1 fx.2.1 dX11_loose_17 rfl (lv_at hl 1 rfl) ?_
    refine lv_aload_n fx.1 fx.2.1 dX11_loose_18 rfl (lv_at hl 0 rfl) ?_
    refine lv_iload_n fx.1 fx.2.1 dX11_loose_19 rfl (lv_at hl 2 rfl) ?_
    obtain ⟨v3, hf, hok⟩ := gOk_bind hok
    refine g_callV0 (κ := 11) fx hw (c_X11_isWhole l X τ x0 x2 G h0 hf) lv_RX11_146 ⟨rfl, rfl⟩ rfl rfl h0 rfl hl.1 rfl ⟨Nat.le_of_ble_eq_true rfl, Nat.le_of_ble_eq_true rfl⟩ (Nat.le_of_ble_eq_true rfl) ⟨Nat.le_of_ble_eq_true rfl, Nat.le_of_ble_eq_true rfl⟩ dX11_loose_20 (fun H locs hw => ?_)
    refine g_if_eq (tgt := 42) fx dX11_loose_23 (by decide) hok (fun hok => ?_) (fun hok => ?_)
    · exact w_X11_loose_42 fx n x0 x2 x1 h0  hw (lv_sub hl [0, 2] rfl) hok hc hx0
    · refine lv_aload_n fx.1 fx.2.1 dX11_loose_26 rfl (lv_at hl 0 rfl) ?_
      refine lv_iload_n fx.1 fx.2.1 dX11_loose_27 rfl (lv_at hl 2 rfl) ?_
      refine lv_bipush (v := 6) fx.1 fx.2.1 dX11_loose_28 (by decide) ?_
      obtain ⟨v6, hf, hok⟩ := gOk_bind hok
      refine g_callV0 (κ := 11) fx hw (c_X11_of l X τ x0 x2 (6 : Int32) G h0 hf) lv_RX11_62 ⟨rfl, rfl⟩ rfl rfl h0 rfl hl.1 rfl ⟨Nat.le_of_ble_eq_true rfl, Nat.le_of_ble_eq_true rfl⟩ (Nat.le_of_ble_eq_true rfl) ⟨Nat.le_of_ble_eq_true rfl, Nat.le_of_ble_eq_true rfl⟩ dX11_loose_30 (fun H locs hw => ?_)
      refine g_if_ne (tgt := 42) fx dX11_loose_33 (by decide) hok (fun hok => ?_) (fun hok => ?_)
      · refine lv_iconst (v := 1) fx.1 fx.2.1 dX11_loose_36 (by decide) ?_
        refine lv_iload_n fx.1 fx.2.1 dX11_loose_37 rfl (lv_at hl 2 rfl) ?_
        refine lv_ishl fx.1 fx.2.1 dX11_loose_38 ?_
        refine lv_goto (tgt := 43) fx.1 fx.2.1 dX11_loose_39 (by decide) ?_
        exact w_X11_loose_43 fx n x0 x2 x1 ((1 : Int32) <<< (x2 &&& 31)) h0  hw (lv_sub hl [0, 2] rfl) hok hc hx0
      · exact w_X11_loose_42 fx n x0 x2 x1 h0  hw (lv_sub hl [0, 2] rfl) hok hc hx0
theorem w_l_X11_loose_9 {X : gX} {τ : gτ} {p : Program} {l : Launch} {e : Env} {s : State} {m : MethodId} {args : Array Value} {below : List Frame} {meth : Method} {c : Code} (fx : gFx X p s m args meth c cX11_loose 3 RX11) (n : Nat) (x0 : Nat) (h0 : gK τ x0 11) (G : gG) {Q : State → Prop} {K : ((Int32)) → Prop} (hx0 : ∀ (y1 : Int32) (H : Heap) (locs : List Loc) (ls : Array Slot), gHw X τ G H locs → lv_has ls 3 [(1, .int y1)] → K y1 → W p l e rm_X11_loose s m args below meth c H locs 0 0 Q (F0 m 51 ls [])) : ∀ (k : Nat) (x1 : Int32) (x2 : Int32) (H : Heap) (locs : List Loc) (ls : Array Slot), gHw X τ G H locs → lv_has ls 3 [(0, .ref x0), (1, .int x1), (2, .int x2)] → gOk (gIter (fun (q : Int32 × Int32) => b_X11_loose_9 τ n x0 q.1 q.2 G) k (x1, x2)) K → W p l e rm_X11_loose s m args below meth c H locs 0 0 Q (F0 m 9 ls []) := by
  intro k
  induction k with
  | zero =>
    intro x1 x2  H locs ls hw hl hok
    exact gOk_iter0 hok
  | succ k hc =>
    intro x1 x2  H locs ls hw hl hok
    exact w_b_X11_loose_9 fx n x0 x1 x2 h0 hw hl (gOk_iter hok) hc hx0
set_option maxHeartbeats 4000000 in
set_option maxRecDepth 100000 in
theorem c_X11_loose (l : Launch) (X : gX) (τ : gτ) (n : Nat) (x0 : Nat) (G : gG) (h0 : gK τ x0 11) {r : Int32} {G' : gG} (h : f_X11_loose τ n x0 G = some (r, G')) : gM l X τ yX11_loose cX11_loose 3 (some .int) rm_X11_loose [.ref x0] G (some (.int r)) G' := by
  refine g_body (by decide +kernel) (Nat.le_of_ble_eq_true rfl) ?_
  intro p e s m args below meth c ls fx hr hw hl
  have fx : gFx X p s m args meth c cX11_loose 3 RX11 := fx
  have hl : lv_has ls 3 [(0, .ref x0)] := hl
  have hok : gOk (f_X11_loose τ n x0 G) (fun q => q = (r, G')) := ⟨_, h, rfl⟩
  unfold f_X11_loose at hok
  show W p l e rm_X11_loose s m args below meth c s.heap [] 0 0 (MQ below (gQ X τ (some (.int r)) G') args s 0 0 (gFree X)) _
  refine lv_aload_n fx.1 fx.2.1 dX11_loose_0 rfl (lv_at hl 0 rfl) ?_
  refine lv_iconst (v := 0) fx.1 fx.2.1 dX11_loose_1 (by decide) ?_
  refine g_puti fx hw h0 lp_RX11_3 rfl rfl dX11_loose_2 hok (fun G1 H locs hw hok => ?_)
  refine lv_iconst (v := 0) fx.1 fx.2.1 dX11_loose_5 (by decide) ?_
  refine lv_istore_n (lv' := [(1, .int (0 : Int32)), (0, .ref x0)]) fx.1 fx.2.1 dX11_loose_6 rfl hl (by decide) rfl (fun ls hl => ?_)
  refine lv_iconst (v := 0) fx.1 fx.2.1 dX11_loose_7 (by decide) ?_
  refine lv_istore_n (lv' := [(2, .int (0 : Int32)), (1, .int (0 : Int32)), (0, .ref x0)]) fx.1 fx.2.1 dX11_loose_8 rfl hl (by decide) rfl (fun ls hl => ?_)
  refine w_l_X11_loose_9 fx n x0 h0 G1 ?_ n (0 : Int32) (0 : Int32)  _ _ _  hw (lv_sub hl [2, 1, 0] rfl) (gOk_bindK hok)
  intro z7  H locs ls hw hl hok
  have hok : gOk (ρ := Int32 × gG) (some (z7, G1)) _ := hok
  refine lv_iload_n fx.1 fx.2.1 dX11_loose_51 rfl (lv_at hl 0 rfl) ?_
  cases gOk_some hok
  exact g_iret fx hw hr dX11_loose_52
theorem dX11_canLay_0 : decode cX11_canLay 0 = .ok (.iconst 0, 1) := by decide +kernel
theorem dX11_canLay_1 : decode cX11_canLay 1 = .ok (.istore_n 3, 1) := by decide +kernel
theorem dX11_canLay_2 : decode cX11_canLay 2 = .ok (.iconst 0, 1) := by decide +kernel
theorem dX11_canLay_3 : decode cX11_canLay 3 = .ok (.istore 4, 2) := by decide +kernel
theorem dX11_canLay_5 : decode cX11_canLay 5 = .ok (.iload 4, 2) := by decide +kernel
theorem dX11_canLay_7 : decode cX11_canLay 7 = .ok (.aload_n 0, 1) := by decide +kernel
theorem dX11_canLay_8 : decode cX11_canLay 8 = .ok (.invokevirtual 65, 3) := by decide +kernel
theorem dX11_canLay_11 : decode cX11_canLay 11 = .ok (.if_icmp .ge 25, 3) := by decide +kernel
theorem dX11_canLay_14 : decode cX11_canLay 14 = .ok (.iload_n 3, 1) := by decide +kernel
theorem dX11_canLay_15 : decode cX11_canLay 15 = .ok (.iload_n 1, 1) := by decide +kernel
theorem dX11_canLay_16 : decode cX11_canLay 16 = .ok (.aload_n 0, 1) := by decide +kernel
theorem dX11_canLay_17 : decode cX11_canLay 17 = .ok (.iload 4, 2) := by decide +kernel
theorem dX11_canLay_19 : decode cX11_canLay 19 = .ok (.iconst 1, 1) := by decide +kernel
theorem dX11_canLay_20 : decode cX11_canLay 20 = .ok (.invokevirtual 132, 3) := by decide +kernel
theorem dX11_canLay_23 : decode cX11_canLay 23 = .ok (.iload_n 2, 1) := by decide +kernel
theorem dX11_canLay_24 : decode cX11_canLay 24 = .ok (.idiv, 1) := by decide +kernel
theorem dX11_canLay_25 : decode cX11_canLay 25 = .ok (.invokestatic 135, 3) := by decide +kernel
theorem dX11_canLay_28 : decode cX11_canLay 28 = .ok (.iadd, 1) := by decide +kernel
theorem dX11_canLay_29 : decode cX11_canLay 29 = .ok (.istore_n 3, 1) := by decide +kernel
theorem dX11_canLay_30 : decode cX11_canLay 30 = .ok (.iinc 4 1, 3) := by decide +kernel
theorem dX11_canLay_33 : decode cX11_canLay 33 = .ok (.goto (-28), 3) := by decide +kernel
theorem dX11_canLay_36 : decode cX11_canLay 36 = .ok (.iload_n 3, 1) := by decide +kernel
theorem dX11_canLay_37 : decode cX11_canLay 37 = .ok (.iconst 3, 1) := by decide +kernel
theorem dX11_canLay_38 : decode cX11_canLay 38 = .ok (.iload_n 1, 1) := by decide +kernel
theorem dX11_canLay_39 : decode cX11_canLay 39 = .ok (.imul, 1) := by decide +kernel
theorem dX11_canLay_40 : decode cX11_canLay 40 = .ok (.if_icmp .lt 7, 3) := by decide +kernel
theorem dX11_canLay_43 : decode cX11_canLay 43 = .ok (.iconst 1, 1) := by decide +kernel
theorem dX11_canLay_44 : decode cX11_canLay 44 = .ok (.goto 4, 3) := by decide +kernel
theorem dX11_canLay_47 : decode cX11_canLay 47 = .ok (.iconst 0, 1) := by decide +kernel
theorem dX11_canLay_48 : decode cX11_canLay 48 = .ok (.ireturn, 1) := by decide +kernel
def rm_X11_canLay : Room := { frames := 2, cells := 0, slots := 0, locals := 43 }
def b_X11_canLay_5 (τ : gτ) (n : Nat) (x0 : Nat) (x1 : Int32) (x2 : Int32) (x3 : Int32) (x4 : Int32) (G : gG) : Option ((Int32 × Int32) ⊕ ((Int32))) :=
  (f_X11_yarns τ x0 G).bind fun v1 =>
  if v1 ≤ x4 then (some (.inr x3))
  else ((f_X11_ofYarn τ x0 x4 (1 : Int32) G).bind fun v2 =>
  gchk (¬ x2 = 0) <|
  gLet (x3 + (gmin x1 (v2 / x2))) fun v3 =>
  gLet (x4 + 1) fun v4 =>
  some (.inl (v3, v4)))
def l_X11_canLay_5 (τ : gτ) (n : Nat) (x0 : Nat) (x1 : Int32) (x2 : Int32) (x3 : Int32) (x4 : Int32) (G : gG) : Option ((Int32)) :=
  gIter (fun (q : Int32 × Int32) => b_X11_canLay_5 τ n x0 x1 x2 q.1 q.2 G) n (x3, x4)
def k_X11_canLay_36 (τ : gτ) (n : Nat) (x1 : Int32) (x3 : Int32)  (G : gG) : Option (Int32) :=
  if x3 < ((3 : Int32) * x1) then (some (0))
  else (some (1))
def f_X11_canLay (τ : gτ) (n : Nat) (x0 : Nat) (x1 : Int32) (x2 : Int32) (G : gG) : Option (Int32) :=
  (l_X11_canLay_5 τ n x0 x1 x2 (0 : Int32) (0 : Int32) G).bind fun q => gLet q fun z5 => 
  k_X11_canLay_36 τ n x1 z5  G
set_option maxHeartbeats 4000000 in
set_option maxRecDepth 100000 in
theorem w_b_X11_canLay_5 {X : gX} {τ : gτ} {p : Program} {l : Launch} {e : Env} {s : State} {m : MethodId} {args : Array Value} {below : List Frame} {meth : Method} {c : Code} (fx : gFx X p s m args meth c cX11_canLay 5 RX11) (n : Nat) (x0 : Nat) (x1 : Int32) (x2 : Int32) (x3 : Int32) (x4 : Int32) (h0 : gK τ x0 11) {Q : State → Prop} {K : ((Int32 × Int32) ⊕ ((Int32))) → Prop} {G : gG} {H : Heap} {locs : List Loc} {ls : Array Slot} (hw : gHw X τ G H locs) (hl : lv_has ls 5 [(0, .ref x0), (1, .int x1), (2, .int x2), (3, .int x3), (4, .int x4)]) (hok : gOk (b_X11_canLay_5 τ n x0 x1 x2 x3 x4 G) K) (hc : ∀ (y3 : Int32) (y4 : Int32) (H : Heap) (locs : List Loc) (ls : Array Slot), gHw X τ G H locs → lv_has ls 5 [(0, .ref x0), (1, .int x1), (2, .int x2), (3, .int y3), (4, .int y4)] → K (.inl (y3, y4)) → W p l e rm_X11_canLay s m args below meth c H locs 0 0 Q (F0 m 5 ls [])) (hx0 : ∀ (y3 : Int32) (H : Heap) (locs : List Loc) (ls : Array Slot), gHw X τ G H locs → lv_has ls 5 [(1, .int x1), (3, .int y3)] → K (.inr y3) → W p l e rm_X11_canLay s m args below meth c H locs 0 0 Q (F0 m 36 ls [])) : W p l e rm_X11_canLay s m args below meth c H locs 0 0 Q (F0 m 5 ls []) := by
  unfold b_X11_canLay_5 at hok
  refine lv_iload fx.1 fx.2.1 dX11_canLay_5 (lv_at hl 4 rfl) ?_
  refine lv_aload_n fx.1 fx.2.1 dX11_canLay_7 rfl (lv_at hl 0 rfl) ?_
  obtain ⟨v1, hf, hok⟩ := gOk_bind hok
  refine g_callV0 (κ := 11) fx hw (c_X11_yarns l X τ x0 G h0 hf) lv_RX11_65 ⟨rfl, rfl⟩ rfl rfl h0 rfl hl.1 rfl ⟨Nat.le_of_ble_eq_true rfl, Nat.le_of_ble_eq_true rfl⟩ (Nat.le_of_ble_eq_true rfl) ⟨Nat.le_of_ble_eq_true rfl, Nat.le_of_ble_eq_true rfl⟩ dX11_canLay_8 (fun H locs hw => ?_)
  refine g_icmp_ge (tgt := 36) fx dX11_canLay_11 (by decide) hok (fun hok => ?_) (fun hok => ?_)
  · exact hx0 x3  _ _ _  hw (lv_sub hl [1, 3] rfl) (gOk_some hok)
  · refine lv_iload_n fx.1 fx.2.1 dX11_canLay_14 rfl (lv_at hl 3 rfl) ?_
    refine lv_iload_n fx.1 fx.2.1 dX11_canLay_15 rfl (lv_at hl 1 rfl) ?_
    refine lv_aload_n fx.1 fx.2.1 dX11_canLay_16 rfl (lv_at hl 0 rfl) ?_
    refine lv_iload fx.1 fx.2.1 dX11_canLay_17 (lv_at hl 4 rfl) ?_
    refine lv_iconst (v := 1) fx.1 fx.2.1 dX11_canLay_19 (by decide) ?_
    obtain ⟨v2, hf, hok⟩ := gOk_bind hok
    refine g_callV0 (κ := 11) fx hw (c_X11_ofYarn l X τ x0 x4 (1 : Int32) G h0 hf) lv_RX11_132 ⟨rfl, rfl⟩ rfl rfl h0 rfl hl.1 rfl ⟨Nat.le_of_ble_eq_true rfl, Nat.le_of_ble_eq_true rfl⟩ (Nat.le_of_ble_eq_true rfl) ⟨Nat.le_of_ble_eq_true rfl, Nat.le_of_ble_eq_true rfl⟩ dX11_canLay_20 (fun H locs hw => ?_)
    refine lv_iload_n fx.1 fx.2.1 dX11_canLay_23 rfl (lv_at hl 2 rfl) ?_
    refine g_idiv fx dX11_canLay_24 hok (fun hok => ?_)
    refine g_mmin fx hl.1 lm_RX11_135 lmst_min lm_init lmco_min ⟨Nat.le_of_ble_eq_true rfl, Nat.le_of_ble_eq_true rfl, Nat.le_of_ble_eq_true rfl, Nat.le_of_ble_eq_true rfl⟩ dX11_canLay_25 ?_
    refine lv_iadd fx.1 fx.2.1 dX11_canLay_28 ?_
    refine g_leti hok (fun v3 hok => ?_)
    refine lv_istore_n (lv' := [(3, .int v3), (0, .ref x0), (1, .int x1), (2, .int x2), (4, .int x4)]) fx.1 fx.2.1 dX11_canLay_29 rfl hl (by decide) rfl (fun ls hl => ?_)
    obtain ⟨v4, e_v4, hok⟩ := gOk_let hok
    refine lv_iinc (v := v4) (lv' := [(4, .int v4), (3, .int v3), (0, .ref x0), (1, .int x1), (2, .int x2)]) fx.1 fx.2.1 dX11_canLay_30 hl (k := 4) rfl (by rw [e_v4]; rfl) (by decide) rfl (fun ls hl => ?_)
    refine lv_goto (tgt := 5) fx.1 fx.2.1 dX11_canLay_33 (by decide) ?_
    exact hc v3 v4  _ _ _  hw (lv_sub hl [2, 3, 4, 1, 0] rfl) (gOk_some hok)
theorem w_l_X11_canLay_5 {X : gX} {τ : gτ} {p : Program} {l : Launch} {e : Env} {s : State} {m : MethodId} {args : Array Value} {below : List Frame} {meth : Method} {c : Code} (fx : gFx X p s m args meth c cX11_canLay 5 RX11) (n : Nat) (x0 : Nat) (x1 : Int32) (x2 : Int32) (h0 : gK τ x0 11) (G : gG) {Q : State → Prop} {K : ((Int32)) → Prop} (hx0 : ∀ (y3 : Int32) (H : Heap) (locs : List Loc) (ls : Array Slot), gHw X τ G H locs → lv_has ls 5 [(1, .int x1), (3, .int y3)] → K y3 → W p l e rm_X11_canLay s m args below meth c H locs 0 0 Q (F0 m 36 ls [])) : ∀ (k : Nat) (x3 : Int32) (x4 : Int32) (H : Heap) (locs : List Loc) (ls : Array Slot), gHw X τ G H locs → lv_has ls 5 [(0, .ref x0), (1, .int x1), (2, .int x2), (3, .int x3), (4, .int x4)] → gOk (gIter (fun (q : Int32 × Int32) => b_X11_canLay_5 τ n x0 x1 x2 q.1 q.2 G) k (x3, x4)) K → W p l e rm_X11_canLay s m args below meth c H locs 0 0 Q (F0 m 5 ls []) := by
  intro k
  induction k with
  | zero =>
    intro x3 x4  H locs ls hw hl hok
    exact gOk_iter0 hok
  | succ k hc =>
    intro x3 x4  H locs ls hw hl hok
    exact w_b_X11_canLay_5 fx n x0 x1 x2 x3 x4 h0 hw hl (gOk_iter hok) hc hx0
set_option maxHeartbeats 4000000 in
set_option maxRecDepth 100000 in
theorem w_X11_canLay_36 {X : gX} {τ : gτ} {p : Program} {l : Launch} {e : Env} {s : State} {m : MethodId} {args : Array Value} {below : List Frame} {meth : Method} {c : Code} (fx : gFx X p s m args meth c cX11_canLay 5 RX11) (n : Nat) (x1 : Int32) (x3 : Int32)    (hr : meth.sig.returnType = (some .boolean)) {r : Int32}  {G : gG} {H : Heap} {locs : List Loc} {ls : Array Slot} (hw : gHw X τ G H locs) (hl : lv_has ls 5 [(1, .int x1), (3, .int x3)]) (hok : gOk (k_X11_canLay_36 τ n x1 x3  G) (fun q => q = r))  : W p l e rm_X11_canLay s m args below meth c H locs 0 0 (MQ below (gQ X τ (some (.int r)) G) args s 0 0 (gFree X)) (F0 m 36 ls []) := by
  unfold k_X11_canLay_36 at hok
  refine lv_iload_n fx.1 fx.2.1 dX11_canLay_36 rfl (lv_at hl 1 rfl) ?_
  refine lv_iconst (v := 3) fx.1 fx.2.1 dX11_canLay_37 (by decide) ?_
  refine lv_iload_n fx.1 fx.2.1 dX11_canLay_38 rfl (lv_at hl 0 rfl) ?_
  refine lv_imul fx.1 fx.2.1 dX11_canLay_39 ?_
  refine g_icmp_lt (tgt := 47) fx dX11_canLay_40 (by decide) hok (fun hok => ?_) (fun hok => ?_)
  · refine lv_iconst (v := 0) fx.1 fx.2.1 dX11_canLay_47 (by decide) ?_
    cases gOk_some hok
    exact g_zret fx hw hr (by decide) dX11_canLay_48
  · refine lv_iconst (v := 1) fx.1 fx.2.1 dX11_canLay_43 (by decide) ?_
    refine lv_goto (tgt := 48) fx.1 fx.2.1 dX11_canLay_44 (by decide) ?_
    cases gOk_some hok
    exact g_zret fx hw hr (by decide) dX11_canLay_48
set_option maxHeartbeats 4000000 in
set_option maxRecDepth 100000 in
theorem c_X11_canLay (l : Launch) (X : gX) (τ : gτ) (n : Nat) (x0 : Nat) (x1 : Int32) (x2 : Int32) (G : gG) (h0 : gK τ x0 11) {r : Int32}  (h : f_X11_canLay τ n x0 x1 x2 G = some r) : gM l X τ yX11_canLay cX11_canLay 5 (some .boolean) rm_X11_canLay [.ref x0, .int x1, .int x2] G (some (.int r)) G := by
  refine g_body (by decide +kernel) (Nat.le_of_ble_eq_true rfl) ?_
  intro p e s m args below meth c ls fx hr hw hl
  have fx : gFx X p s m args meth c cX11_canLay 5 RX11 := fx
  have hl : lv_has ls 5 [(0, .ref x0), (1, .int x1), (2, .int x2)] := hl
  have hok : gOk (f_X11_canLay τ n x0 x1 x2 G) (fun q => q = r) := ⟨_, h, rfl⟩
  unfold f_X11_canLay at hok
  show W p l e rm_X11_canLay s m args below meth c s.heap [] 0 0 (MQ below (gQ X τ (some (.int r)) G) args s 0 0 (gFree X)) _
  refine lv_iconst (v := 0) fx.1 fx.2.1 dX11_canLay_0 (by decide) ?_
  refine lv_istore_n (lv' := [(3, .int (0 : Int32)), (0, .ref x0), (1, .int x1), (2, .int x2)]) fx.1 fx.2.1 dX11_canLay_1 rfl hl (by decide) rfl (fun ls hl => ?_)
  refine lv_iconst (v := 0) fx.1 fx.2.1 dX11_canLay_2 (by decide) ?_
  refine lv_istore (lv' := [(4, .int (0 : Int32)), (3, .int (0 : Int32)), (0, .ref x0), (1, .int x1), (2, .int x2)]) fx.1 fx.2.1 dX11_canLay_3 hl (by decide) rfl (fun ls hl => ?_)
  refine w_l_X11_canLay_5 fx n x0 x1 x2 h0 G ?_ n (0 : Int32) (0 : Int32)  _ _ _  hw (lv_sub hl [2, 3, 4, 1, 0] rfl) (gOk_bindK hok)
  intro z5  H locs ls hw hl hok
  have hok : gOk (ρ := Int32) (k_X11_canLay_36 τ n x1 z5  G) _ := hok
  exact w_X11_canLay_36 fx n x1 z5    hr hw (lv_sub hl [0, 1] rfl) hok
theorem dX11_lasts_0 : decode cX11_lasts 0 = .ok (.aload_n 0, 1) := by decide +kernel
theorem dX11_lasts_1 : decode cX11_lasts 1 = .ok (.iconst 0, 1) := by decide +kernel
theorem dX11_lasts_2 : decode cX11_lasts 2 = .ok (.putfield 3, 3) := by decide +kernel
theorem dX11_lasts_5 : decode cX11_lasts 5 = .ok (.aload_n 0, 1) := by decide +kernel
theorem dX11_lasts_6 : decode cX11_lasts 6 = .ok (.iload_n 1, 1) := by decide +kernel
theorem dX11_lasts_7 : decode cX11_lasts 7 = .ok (.iconst 1, 1) := by decide +kernel
theorem dX11_lasts_8 : decode cX11_lasts 8 = .ok (.sipush 200, 3) := by decide +kernel
theorem dX11_lasts_11 : decode cX11_lasts 11 = .ok (.invokestatic 69, 3) := by decide +kernel
theorem dX11_lasts_14 : decode cX11_lasts 14 = .ok (.ifCond .ne 7, 3) := by decide +kernel
theorem dX11_lasts_17 : decode cX11_lasts 17 = .ok (.iconst 1, 1) := by decide +kernel
theorem dX11_lasts_18 : decode cX11_lasts 18 = .ok (.goto 4, 3) := by decide +kernel
theorem dX11_lasts_21 : decode cX11_lasts 21 = .ok (.iconst 0, 1) := by decide +kernel
theorem dX11_lasts_22 : decode cX11_lasts 22 = .ok (.iconst 1, 1) := by decide +kernel
theorem dX11_lasts_23 : decode cX11_lasts 23 = .ok (.invokevirtual 263, 3) := by decide +kernel
theorem dX11_lasts_26 : decode cX11_lasts 26 = .ok (.ifCond .eq 5, 3) := by decide +kernel
theorem dX11_lasts_29 : decode cX11_lasts 29 = .ok (.iconst 0, 1) := by decide +kernel
theorem dX11_lasts_30 : decode cX11_lasts 30 = .ok (.ireturn, 1) := by decide +kernel
theorem dX11_lasts_31 : decode cX11_lasts 31 = .ok (.iconst 0, 1) := by decide +kernel
theorem dX11_lasts_32 : decode cX11_lasts 32 = .ok (.istore_n 2, 1) := by decide +kernel
theorem dX11_lasts_33 : decode cX11_lasts 33 = .ok (.aload_n 0, 1) := by decide +kernel
theorem dX11_lasts_34 : decode cX11_lasts 34 = .ok (.iload_n 2, 1) := by decide +kernel
theorem dX11_lasts_35 : decode cX11_lasts 35 = .ok (.iconst 1, 1) := by decide +kernel
theorem dX11_lasts_36 : decode cX11_lasts 36 = .ok (.iadd, 1) := by decide +kernel
theorem dX11_lasts_37 : decode cX11_lasts 37 = .ok (.iload_n 1, 1) := by decide +kernel
theorem dX11_lasts_38 : decode cX11_lasts 38 = .ok (.invokevirtual 426, 3) := by decide +kernel
theorem dX11_lasts_41 : decode cX11_lasts 41 = .ok (.ifCond .eq 9, 3) := by decide +kernel
theorem dX11_lasts_44 : decode cX11_lasts 44 = .ok (.iinc 2 1, 3) := by decide +kernel
theorem dX11_lasts_47 : decode cX11_lasts 47 = .ok (.goto (-14), 3) := by decide +kernel
theorem dX11_lasts_50 : decode cX11_lasts 50 = .ok (.iload_n 2, 1) := by decide +kernel
theorem dX11_lasts_51 : decode cX11_lasts 51 = .ok (.ireturn, 1) := by decide +kernel
theorem lv_RX11_426 : gLv RX11 426 RX11 yX11_canLay cX11_canLay 5 (some .boolean) 2 := gLv_of (wA_t (wt9 (List.mem_of_getElem? (i := 75) (by decide +kernel))) (by decide +kernel)) (wA_t (wt9 (List.mem_of_getElem? (i := 77) (by decide +kernel))) (by decide +kernel)) (wA_of (List.mem_append_left _ (List.mem_map.mpr ⟨(⟨"YearRopeModel", "canLay", "(II)Z"⟩, 20), wp8 (List.mem_of_getElem? (i := 10) (by decide +kernel)), rfl⟩)) (by decide +kernel)) (wA_t (wt1 (List.mem_of_getElem? (i := 12) (by decide +kernel))) (by decide +kernel)) (wA_t (wt9 (List.mem_of_getElem? (i := 78) (by decide +kernel))) (by decide +kernel)) ⟨rfl, by decide +kernel, by decide +kernel, by decide +kernel⟩
def rm_X11_lasts : Room := { frames := 3, cells := 0, slots := 0, locals := 67 }
def b_X11_lasts_33 (τ : gτ) (n : Nat) (x0 : Nat) (x1 : Int32) (x2 : Int32) (G : gG) : Option ((Int32) ⊕ ((Int32))) :=
  (f_X11_canLay τ n x0 (x2 + (1 : Int32)) x1 G).bind fun v5 =>
  if v5 = 0 then (some (.inr x2))
  else (gLet (x2 + 1) fun v6 =>
  some (.inl v6))
def l_X11_lasts_33 (τ : gτ) (n : Nat) (x0 : Nat) (x1 : Int32) (x2 : Int32) (G : gG) : Option ((Int32)) :=
  gIter (fun (q : Int32) => b_X11_lasts_33 τ n x0 x1 q G) n x2
def k_X11_lasts_22 (τ : gτ) (n : Nat) (x0 : Nat) (x1 : Int32) (s0 : Nat) (s1 : Int32) (G : gG) : Option (Int32 × gG) :=
  gBind2 (f_X11_throwsIf s0 s1 (1 : Int32) G) fun v3 G4 =>
  if v3 = 0 then ((l_X11_lasts_33 τ n x0 x1 (0 : Int32) G4).bind fun q => gLet q fun z7 => 
  some (z7, G4))
  else (some (0, G4))
def f_X11_lasts (τ : gτ) (n : Nat) (x0 : Nat) (x1 : Int32) (G : gG) : Option (Int32 × gG) :=
  gLet (gsi G 11 0 x0 (0 : Int32)) fun G1 =>
  (f_X11_in x1 (1 : Int32) (200 : Int32)).bind fun v2 =>
  if v2 = 0 then (k_X11_lasts_22 τ n x0 x1 x0 (1 : Int32) G1)
  else (k_X11_lasts_22 τ n x0 x1 x0 (0 : Int32) G1)
set_option maxHeartbeats 4000000 in
set_option maxRecDepth 100000 in
theorem w_b_X11_lasts_33 {X : gX} {τ : gτ} {p : Program} {l : Launch} {e : Env} {s : State} {m : MethodId} {args : Array Value} {below : List Frame} {meth : Method} {c : Code} (fx : gFx X p s m args meth c cX11_lasts 3 RX11) (n : Nat) (x0 : Nat) (x1 : Int32) (x2 : Int32) (h0 : gK τ x0 11) {Q : State → Prop} {K : ((Int32) ⊕ ((Int32))) → Prop} {G : gG} {H : Heap} {locs : List Loc} {ls : Array Slot} (hw : gHw X τ G H locs) (hl : lv_has ls 3 [(0, .ref x0), (1, .int x1), (2, .int x2)]) (hok : gOk (b_X11_lasts_33 τ n x0 x1 x2 G) K) (hc : ∀ (y2 : Int32) (H : Heap) (locs : List Loc) (ls : Array Slot), gHw X τ G H locs → lv_has ls 3 [(0, .ref x0), (1, .int x1), (2, .int y2)] → K (.inl y2) → W p l e rm_X11_lasts s m args below meth c H locs 0 0 Q (F0 m 33 ls [])) (hx0 : ∀ (y2 : Int32) (H : Heap) (locs : List Loc) (ls : Array Slot), gHw X τ G H locs → lv_has ls 3 [(2, .int y2)] → K (.inr y2) → W p l e rm_X11_lasts s m args below meth c H locs 0 0 Q (F0 m 50 ls [])) : W p l e rm_X11_lasts s m args below meth c H locs 0 0 Q (F0 m 33 ls []) := by
  unfold b_X11_lasts_33 at hok
  refine lv_aload_n fx.1 fx.2.1 dX11_lasts_33 rfl (lv_at hl 0 rfl) ?_
  refine lv_iload_n fx.1 fx.2.1 dX11_lasts_34 rfl (lv_at hl 2 rfl) ?_
  refine lv_iconst (v := 1) fx.1 fx.2.1 dX11_lasts_35 (by decide) ?_
  refine lv_iadd fx.1 fx.2.1 dX11_lasts_36 ?_
  refine lv_iload_n fx.1 fx.2.1 dX11_lasts_37 rfl (lv_at hl 1 rfl) ?_
  obtain ⟨v5, hf, hok⟩ := gOk_bind hok
  refine g_callV0 (κ := 11) fx hw (c_X11_canLay l X τ n x0 (x2 + (1 : Int32)) x1 G h0 hf) lv_RX11_426 ⟨rfl, rfl⟩ rfl rfl h0 rfl hl.1 rfl ⟨Nat.le_of_ble_eq_true rfl, Nat.le_of_ble_eq_true rfl⟩ (Nat.le_of_ble_eq_true rfl) ⟨Nat.le_of_ble_eq_true rfl, Nat.le_of_ble_eq_true rfl⟩ dX11_lasts_38 (fun H locs hw => ?_)
  refine g_if_eq (tgt := 50) fx dX11_lasts_41 (by decide) hok (fun hok => ?_) (fun hok => ?_)
  · exact hx0 x2  _ _ _  hw (lv_sub hl [2] rfl) (gOk_some hok)
  · obtain ⟨v6, e_v6, hok⟩ := gOk_let hok
    refine lv_iinc (v := v6) (lv' := [(2, .int v6), (0, .ref x0), (1, .int x1)]) fx.1 fx.2.1 dX11_lasts_44 hl (k := 2) rfl (by rw [e_v6]; rfl) (by decide) rfl (fun ls hl => ?_)
    refine lv_goto (tgt := 33) fx.1 fx.2.1 dX11_lasts_47 (by decide) ?_
    exact hc v6  _ _ _  hw (lv_sub hl [1, 2, 0] rfl) (gOk_some hok)
theorem w_l_X11_lasts_33 {X : gX} {τ : gτ} {p : Program} {l : Launch} {e : Env} {s : State} {m : MethodId} {args : Array Value} {below : List Frame} {meth : Method} {c : Code} (fx : gFx X p s m args meth c cX11_lasts 3 RX11) (n : Nat) (x0 : Nat) (x1 : Int32) (h0 : gK τ x0 11) (G : gG) {Q : State → Prop} {K : ((Int32)) → Prop} (hx0 : ∀ (y2 : Int32) (H : Heap) (locs : List Loc) (ls : Array Slot), gHw X τ G H locs → lv_has ls 3 [(2, .int y2)] → K y2 → W p l e rm_X11_lasts s m args below meth c H locs 0 0 Q (F0 m 50 ls [])) : ∀ (k : Nat) (x2 : Int32) (H : Heap) (locs : List Loc) (ls : Array Slot), gHw X τ G H locs → lv_has ls 3 [(0, .ref x0), (1, .int x1), (2, .int x2)] → gOk (gIter (fun (q : Int32) => b_X11_lasts_33 τ n x0 x1 q G) k x2) K → W p l e rm_X11_lasts s m args below meth c H locs 0 0 Q (F0 m 33 ls []) := by
  intro k
  induction k with
  | zero =>
    intro x2  H locs ls hw hl hok
    exact gOk_iter0 hok
  | succ k hc =>
    intro x2  H locs ls hw hl hok
    exact w_b_X11_lasts_33 fx n x0 x1 x2 h0 hw hl (gOk_iter hok) hc hx0
set_option maxHeartbeats 4000000 in
set_option maxRecDepth 100000 in
theorem w_X11_lasts_22 {X : gX} {τ : gτ} {p : Program} {l : Launch} {e : Env} {s : State} {m : MethodId} {args : Array Value} {below : List Frame} {meth : Method} {c : Code} (fx : gFx X p s m args meth c cX11_lasts 3 RX11) (n : Nat) (x0 : Nat) (x1 : Int32) (s0 : Nat) (s1 : Int32) (h0 : gK τ x0 11) (hs0 : gK τ s0 11) (hr : meth.sig.returnType = (some .int)) {r : Int32} {G' : gG} {G : gG} {H : Heap} {locs : List Loc} {ls : Array Slot} (hw : gHw X τ G H locs) (hl : lv_has ls 3 [(0, .ref x0), (1, .int x1)]) (hok : gOk (k_X11_lasts_22 τ n x0 x1 s0 s1 G) (fun q => q = (r, G')))  : W p l e rm_X11_lasts s m args below meth c H locs 0 0 (MQ below (gQ X τ (some (.int r)) G') args s 0 0 (gFree X)) (F0 m 22 ls [.int s1, .ref s0]) := by
  unfold k_X11_lasts_22 at hok
  refine lv_iconst (v := 1) fx.1 fx.2.1 dX11_lasts_22 (by decide) ?_
  obtain ⟨v3, G4, hf, hok⟩ := gOk_bind2 hok
  refine g_callV0 (κ := 11) fx hw (c_X11_throwsIf l X τ s0 s1 (1 : Int32) G hs0 hf) lv_RX11_263 ⟨rfl, rfl⟩ rfl rfl hs0 rfl hl.1 rfl ⟨Nat.le_of_ble_eq_true rfl, Nat.le_of_ble_eq_true rfl⟩ (Nat.le_of_ble_eq_true rfl) ⟨Nat.le_of_ble_eq_true rfl, Nat.le_of_ble_eq_true rfl⟩ dX11_lasts_23 (fun H locs hw => ?_)
  refine g_if_eq (tgt := 31) fx dX11_lasts_26 (by decide) hok (fun hok => ?_) (fun hok => ?_)
  · refine lv_iconst (v := 0) fx.1 fx.2.1 dX11_lasts_31 (by decide) ?_
    refine lv_istore_n (lv' := [(2, .int (0 : Int32)), (0, .ref x0), (1, .int x1)]) fx.1 fx.2.1 dX11_lasts_32 rfl hl (by decide) rfl (fun ls hl => ?_)
    refine w_l_X11_lasts_33 fx n x0 x1 h0 G4 ?_ n (0 : Int32)  _ _ _  hw (lv_sub hl [1, 2, 0] rfl) (gOk_bindK hok)
    intro z7  H locs ls hw hl hok
    have hok : gOk (ρ := Int32 × gG) (some (z7, G4)) _ := hok
    refine lv_iload_n fx.1 fx.2.1 dX11_lasts_50 rfl (lv_at hl 0 rfl) ?_
    cases gOk_some hok
    exact g_iret fx hw hr dX11_lasts_51
  · refine lv_iconst (v := 0) fx.1 fx.2.1 dX11_lasts_29 (by decide) ?_
    cases gOk_some hok
    exact g_iret fx hw hr dX11_lasts_30
set_option maxHeartbeats 4000000 in
set_option maxRecDepth 100000 in
theorem c_X11_lasts (l : Launch) (X : gX) (τ : gτ) (n : Nat) (x0 : Nat) (x1 : Int32) (G : gG) (h0 : gK τ x0 11) {r : Int32} {G' : gG} (h : f_X11_lasts τ n x0 x1 G = some (r, G')) : gM l X τ yX11_lasts cX11_lasts 3 (some .int) rm_X11_lasts [.ref x0, .int x1] G (some (.int r)) G' := by
  refine g_body (by decide +kernel) (Nat.le_of_ble_eq_true rfl) ?_
  intro p e s m args below meth c ls fx hr hw hl
  have fx : gFx X p s m args meth c cX11_lasts 3 RX11 := fx
  have hl : lv_has ls 3 [(0, .ref x0), (1, .int x1)] := hl
  have hok : gOk (f_X11_lasts τ n x0 x1 G) (fun q => q = (r, G')) := ⟨_, h, rfl⟩
  unfold f_X11_lasts at hok
  show W p l e rm_X11_lasts s m args below meth c s.heap [] 0 0 (MQ below (gQ X τ (some (.int r)) G') args s 0 0 (gFree X)) _
  refine lv_aload_n fx.1 fx.2.1 dX11_lasts_0 rfl (lv_at hl 0 rfl) ?_
  refine lv_iconst (v := 0) fx.1 fx.2.1 dX11_lasts_1 (by decide) ?_
  refine g_puti fx hw h0 lp_RX11_3 rfl rfl dX11_lasts_2 hok (fun G1 H locs hw hok => ?_)
  refine lv_aload_n fx.1 fx.2.1 dX11_lasts_5 rfl (lv_at hl 0 rfl) ?_
  refine lv_iload_n fx.1 fx.2.1 dX11_lasts_6 rfl (lv_at hl 1 rfl) ?_
  refine lv_iconst (v := 1) fx.1 fx.2.1 dX11_lasts_7 (by decide) ?_
  refine lv_sipush (v := 200) fx.1 fx.2.1 dX11_lasts_8 (by decide) ?_
  obtain ⟨v2, hf, hok⟩ := gOk_bind hok
  refine g_callS0 fx hw (c_X11_in l X τ x1 (1 : Int32) (200 : Int32) G1  hf) ls_RX11_69 ⟨rfl, rfl⟩ rfl hl.1 rfl ⟨Nat.le_of_ble_eq_true rfl, Nat.le_of_ble_eq_true rfl⟩ (Nat.le_of_ble_eq_true rfl) ⟨Nat.le_of_ble_eq_true rfl, Nat.le_of_ble_eq_true rfl⟩ dX11_lasts_11 (fun H locs hw => ?_)
  refine g_if_ne (tgt := 21) fx dX11_lasts_14 (by decide) hok (fun hok => ?_) (fun hok => ?_)
  · refine lv_iconst (v := 1) fx.1 fx.2.1 dX11_lasts_17 (by decide) ?_
    refine lv_goto (tgt := 22) fx.1 fx.2.1 dX11_lasts_18 (by decide) ?_
    exact w_X11_lasts_22 fx n x0 x1 x0 (1 : Int32) h0 h0 hr hw (lv_sub hl [0, 1] rfl) hok
  · refine lv_iconst (v := 0) fx.1 fx.2.1 dX11_lasts_21 (by decide) ?_
    exact w_X11_lasts_22 fx n x0 x1 x0 (0 : Int32) h0 h0 hr hw (lv_sub hl [0, 1] rfl) hok
theorem dX11_brokenOnes_0 : decode cX11_brokenOnes 0 = .ok (.iconst 1, 1) := by decide +kernel
theorem dX11_brokenOnes_1 : decode cX11_brokenOnes 1 = .ok (.aload_n 0, 1) := by decide +kernel
theorem dX11_brokenOnes_2 : decode cX11_brokenOnes 2 = .ok (.invokevirtual 73, 3) := by decide +kernel
theorem dX11_brokenOnes_5 : decode cX11_brokenOnes 5 = .ok (.ishl, 1) := by decide +kernel
theorem dX11_brokenOnes_6 : decode cX11_brokenOnes 6 = .ok (.iconst 1, 1) := by decide +kernel
theorem dX11_brokenOnes_7 : decode cX11_brokenOnes 7 = .ok (.isub, 1) := by decide +kernel
theorem dX11_brokenOnes_8 : decode cX11_brokenOnes 8 = .ok (.aload_n 0, 1) := by decide +kernel
theorem dX11_brokenOnes_9 : decode cX11_brokenOnes 9 = .ok (.invokevirtual 414, 3) := by decide +kernel
theorem dX11_brokenOnes_12 : decode cX11_brokenOnes 12 = .ok (.iconst (-1), 1) := by decide +kernel
theorem dX11_brokenOnes_13 : decode cX11_brokenOnes 13 = .ok (.ixor, 1) := by decide +kernel
theorem dX11_brokenOnes_14 : decode cX11_brokenOnes 14 = .ok (.iand, 1) := by decide +kernel
theorem dX11_brokenOnes_15 : decode cX11_brokenOnes 15 = .ok (.ireturn, 1) := by decide +kernel
def rm_X11_brokenOnes : Room := { frames := 4, cells := 0, slots := 0, locals := 86 }
def f_X11_brokenOnes (τ : gτ) (n : Nat) (x0 : Nat) (G : gG) : Option (Int32) :=
  (f_X11_ropes τ x0 G).bind fun v1 =>
  (f_X11_wholeOnes τ n x0 G).bind fun v2 =>
  some ((((1 : Int32) <<< (v1 &&& 31)) - (1 : Int32)) &&& (v2 ^^^ (-1 : Int32)))
set_option maxHeartbeats 4000000 in
set_option maxRecDepth 100000 in
theorem c_X11_brokenOnes (l : Launch) (X : gX) (τ : gτ) (n : Nat) (x0 : Nat) (G : gG) (h0 : gK τ x0 11) {r : Int32}  (h : f_X11_brokenOnes τ n x0 G = some r) : gM l X τ yX11_brokenOnes cX11_brokenOnes 1 (some .int) rm_X11_brokenOnes [.ref x0] G (some (.int r)) G := by
  refine g_body (by decide +kernel) (Nat.le_of_ble_eq_true rfl) ?_
  intro p e s m args below meth c ls fx hr hw hl
  have fx : gFx X p s m args meth c cX11_brokenOnes 1 RX11 := fx
  have hl : lv_has ls 1 [(0, .ref x0)] := hl
  have hok : gOk (f_X11_brokenOnes τ n x0 G) (fun q => q = r) := ⟨_, h, rfl⟩
  unfold f_X11_brokenOnes at hok
  show W p l e rm_X11_brokenOnes s m args below meth c s.heap [] 0 0 (MQ below (gQ X τ (some (.int r)) G) args s 0 0 (gFree X)) _
  refine lv_iconst (v := 1) fx.1 fx.2.1 dX11_brokenOnes_0 (by decide) ?_
  refine lv_aload_n fx.1 fx.2.1 dX11_brokenOnes_1 rfl (lv_at hl 0 rfl) ?_
  obtain ⟨v1, hf, hok⟩ := gOk_bind hok
  refine g_callV0 (κ := 11) fx hw (c_X11_ropes l X τ x0 G h0 hf) lv_RX11_73 ⟨rfl, rfl⟩ rfl rfl h0 rfl hl.1 rfl ⟨Nat.le_of_ble_eq_true rfl, Nat.le_of_ble_eq_true rfl⟩ (Nat.le_of_ble_eq_true rfl) ⟨Nat.le_of_ble_eq_true rfl, Nat.le_of_ble_eq_true rfl⟩ dX11_brokenOnes_2 (fun H locs hw => ?_)
  refine lv_ishl fx.1 fx.2.1 dX11_brokenOnes_5 ?_
  refine lv_iconst (v := 1) fx.1 fx.2.1 dX11_brokenOnes_6 (by decide) ?_
  refine lv_isub fx.1 fx.2.1 dX11_brokenOnes_7 ?_
  refine lv_aload_n fx.1 fx.2.1 dX11_brokenOnes_8 rfl (lv_at hl 0 rfl) ?_
  obtain ⟨v2, hf, hok⟩ := gOk_bind hok
  refine g_callV0 (κ := 11) fx hw (c_X11_wholeOnes l X τ n x0 G h0 hf) lv_RX11_414 ⟨rfl, rfl⟩ rfl rfl h0 rfl hl.1 rfl ⟨Nat.le_of_ble_eq_true rfl, Nat.le_of_ble_eq_true rfl⟩ (Nat.le_of_ble_eq_true rfl) ⟨Nat.le_of_ble_eq_true rfl, Nat.le_of_ble_eq_true rfl⟩ dX11_brokenOnes_9 (fun H locs hw => ?_)
  refine lv_iconst (v := (-1)) fx.1 fx.2.1 dX11_brokenOnes_12 (by decide) ?_
  refine lv_ixor fx.1 fx.2.1 dX11_brokenOnes_13 ?_
  refine lv_iand fx.1 fx.2.1 dX11_brokenOnes_14 ?_
  cases gOk_some hok
  exact g_iret fx hw hr dX11_brokenOnes_15
theorem dX11_trial_0 : decode cX11_trial 0 = .ok (.aload_n 0, 1) := by decide +kernel
theorem dX11_trial_1 : decode cX11_trial 1 = .ok (.iconst 0, 1) := by decide +kernel
theorem dX11_trial_2 : decode cX11_trial 2 = .ok (.putfield 3, 3) := by decide +kernel
theorem dX11_trial_5 : decode cX11_trial 5 = .ok (.aload_n 0, 1) := by decide +kernel
theorem dX11_trial_6 : decode cX11_trial 6 = .ok (.iload_n 1, 1) := by decide +kernel
theorem dX11_trial_7 : decode cX11_trial 7 = .ok (.iconst 0, 1) := by decide +kernel
theorem dX11_trial_8 : decode cX11_trial 8 = .ok (.bipush 40, 2) := by decide +kernel
theorem dX11_trial_10 : decode cX11_trial 10 = .ok (.invokestatic 69, 3) := by decide +kernel
theorem dX11_trial_13 : decode cX11_trial 13 = .ok (.ifCond .ne 7, 3) := by decide +kernel
theorem dX11_trial_16 : decode cX11_trial 16 = .ok (.iconst 1, 1) := by decide +kernel
theorem dX11_trial_17 : decode cX11_trial 17 = .ok (.goto 4, 3) := by decide +kernel
theorem dX11_trial_20 : decode cX11_trial 20 = .ok (.iconst 0, 1) := by decide +kernel
theorem dX11_trial_21 : decode cX11_trial 21 = .ok (.iconst 1, 1) := by decide +kernel
theorem dX11_trial_22 : decode cX11_trial 22 = .ok (.invokevirtual 263, 3) := by decide +kernel
theorem dX11_trial_25 : decode cX11_trial 25 = .ok (.ifCond .eq 5, 3) := by decide +kernel
theorem dX11_trial_28 : decode cX11_trial 28 = .ok (.iconst 0, 1) := by decide +kernel
theorem dX11_trial_29 : decode cX11_trial 29 = .ok (.ireturn, 1) := by decide +kernel
theorem dX11_trial_30 : decode cX11_trial 30 = .ok (.aload_n 0, 1) := by decide +kernel
theorem dX11_trial_31 : decode cX11_trial 31 = .ok (.invokevirtual 408, 3) := by decide +kernel
theorem dX11_trial_34 : decode cX11_trial 34 = .ok (.iconst 0, 1) := by decide +kernel
theorem dX11_trial_35 : decode cX11_trial 35 = .ok (.istore_n 3, 1) := by decide +kernel
theorem dX11_trial_36 : decode cX11_trial 36 = .ok (.iload_n 3, 1) := by decide +kernel
theorem dX11_trial_37 : decode cX11_trial 37 = .ok (.iload_n 1, 1) := by decide +kernel
theorem dX11_trial_38 : decode cX11_trial 38 = .ok (.if_icmp .ge 13, 3) := by decide +kernel
theorem dX11_trial_41 : decode cX11_trial 41 = .ok (.aload_n 0, 1) := by decide +kernel
theorem dX11_trial_42 : decode cX11_trial 42 = .ok (.invokevirtual 372, 3) := by decide +kernel
theorem dX11_trial_45 : decode cX11_trial 45 = .ok (.iinc 3 1, 3) := by decide +kernel
theorem dX11_trial_48 : decode cX11_trial 48 = .ok (.goto (-12), 3) := by decide +kernel
theorem dX11_trial_51 : decode cX11_trial 51 = .ok (.iload_n 2, 1) := by decide +kernel
theorem dX11_trial_52 : decode cX11_trial 52 = .ok (.ifCond .eq 21, 3) := by decide +kernel
theorem dX11_trial_55 : decode cX11_trial 55 = .ok (.aload_n 0, 1) := by decide +kernel
theorem dX11_trial_56 : decode cX11_trial 56 = .ok (.getfield 13, 3) := by decide +kernel
theorem dX11_trial_59 : decode cX11_trial 59 = .ok (.bipush 8, 2) := by decide +kernel
theorem dX11_trial_61 : decode cX11_trial 61 = .ok (.iaload, 1) := by decide +kernel
theorem dX11_trial_62 : decode cX11_trial 62 = .ok (.aload_n 0, 1) := by decide +kernel
theorem dX11_trial_63 : decode cX11_trial 63 = .ok (.getfield 23, 3) := by decide +kernel
theorem dX11_trial_66 : decode cX11_trial 66 = .ok (.bipush 8, 2) := by decide +kernel
theorem dX11_trial_68 : decode cX11_trial 68 = .ok (.iaload, 1) := by decide +kernel
theorem dX11_trial_69 : decode cX11_trial 69 = .ok (.isub, 1) := by decide +kernel
theorem dX11_trial_70 : decode cX11_trial 70 = .ok (.goto 7, 3) := by decide +kernel
theorem dX11_trial_73 : decode cX11_trial 73 = .ok (.aload_n 0, 1) := by decide +kernel
theorem dX11_trial_74 : decode cX11_trial 74 = .ok (.invokevirtual 429, 3) := by decide +kernel
theorem dX11_trial_77 : decode cX11_trial 77 = .ok (.istore_n 3, 1) := by decide +kernel
theorem dX11_trial_78 : decode cX11_trial 78 = .ok (.aload_n 0, 1) := by decide +kernel
theorem dX11_trial_79 : decode cX11_trial 79 = .ok (.invokevirtual 411, 3) := by decide +kernel
theorem dX11_trial_82 : decode cX11_trial 82 = .ok (.iload_n 3, 1) := by decide +kernel
theorem dX11_trial_83 : decode cX11_trial 83 = .ok (.ireturn, 1) := by decide +kernel
theorem lv_RX11_429 : gLv RX11 429 RX11 yX11_brokenOnes cX11_brokenOnes 1 (some .int) 0 := gLv_of (wA_t (wt9 (List.mem_of_getElem? (i := 83) (by decide +kernel))) (by decide +kernel)) (wA_t (wt9 (List.mem_of_getElem? (i := 85) (by decide +kernel))) (by decide +kernel)) (wA_of (List.mem_append_left _ (List.mem_map.mpr ⟨(⟨"YearRopeModel", "brokenOnes", "()I"⟩, 20), wp8 (List.mem_of_getElem? (i := 11) (by decide +kernel)), rfl⟩)) (by decide +kernel)) (wA_t (wt1 (List.mem_of_getElem? (i := 12) (by decide +kernel))) (by decide +kernel)) (wA_t (wt9 (List.mem_of_getElem? (i := 86) (by decide +kernel))) (by decide +kernel)) ⟨rfl, by decide +kernel, by decide +kernel, by decide +kernel⟩
def rm_X11_trial : Room := { frames := 10, cells := 0, slots := 0, locals := 229 }
def b_X11_trial_36 (τ : gτ) (n : Nat) (x0 : Nat) (x1 : Int32) (x2 : Int32) (x3 : Int32) (G : gG) : Option ((Int32 × gG) ⊕ ((gG))) :=
  if x1 ≤ x3 then (some (.inr G))
  else ((f_X11_oneSeason τ n x0 G).bind fun G6 =>
  gLet (x3 + 1) fun v7 =>
  some (.inl (v7, G6)))
def l_X11_trial_36 (τ : gτ) (n : Nat) (x0 : Nat) (x1 : Int32) (x2 : Int32) (x3 : Int32) (G : gG) : Option ((gG)) :=
  gIter (fun (q : Int32 × gG) => b_X11_trial_36 τ n x0 x1 x2 q.1 q.2) n (x3, G)
def k_X11_trial_77 (τ : gτ) (n : Nat) (x0 : Nat) (s0 : Int32) (G : gG) : Option (Int32 × gG) :=
  (f_X11_bringsBack τ n x0 G).bind fun G10 =>
  some (s0, G10)
def k_X11_trial_51 (τ : gτ) (n : Nat) (x0 : Nat) (x2 : Int32)  (G : gG) : Option (Int32 × gG) :=
  if x2 = 0 then ((f_X11_brokenOnes τ n x0 G).bind fun v9 =>
  k_X11_trial_77 τ n x0 v9 G)
  else ((gr G 11 1 x0).bind fun a11 =>
  gchk (gIn (8 : Int32) (gn τ a11)) <|
  (gr G 11 4 x0).bind fun a12 =>
  gchk (gIn (8 : Int32) (gn τ a12)) <|
  k_X11_trial_77 τ n x0 ((ge G a11 (Int32.toNatClampNeg (8 : Int32))) - (ge G a12 (Int32.toNatClampNeg (8 : Int32)))) G)
def k_X11_trial_21 (τ : gτ) (n : Nat) (x0 : Nat) (x1 : Int32) (x2 : Int32) (s0 : Nat) (s1 : Int32) (G : gG) : Option (Int32 × gG) :=
  gBind2 (f_X11_throwsIf s0 s1 (1 : Int32) G) fun v3 G4 =>
  if v3 = 0 then ((f_X11_keepsAll τ n x0 G4).bind fun G5 =>
  (l_X11_trial_36 τ n x0 x1 x2 (0 : Int32) G5).bind fun q => gLet q fun G8 => 
  k_X11_trial_51 τ n x0 x2  G8)
  else (some (0, G4))
def f_X11_trial (τ : gτ) (n : Nat) (x0 : Nat) (x1 : Int32) (x2 : Int32) (G : gG) : Option (Int32 × gG) :=
  gLet (gsi G 11 0 x0 (0 : Int32)) fun G1 =>
  (f_X11_in x1 (0 : Int32) (40 : Int32)).bind fun v2 =>
  if v2 = 0 then (k_X11_trial_21 τ n x0 x1 x2 x0 (1 : Int32) G1)
  else (k_X11_trial_21 τ n x0 x1 x2 x0 (0 : Int32) G1)
set_option maxHeartbeats 4000000 in
set_option maxRecDepth 100000 in
theorem w_b_X11_trial_36 {X : gX} {τ : gτ} {p : Program} {l : Launch} {e : Env} {s : State} {m : MethodId} {args : Array Value} {below : List Frame} {meth : Method} {c : Code} (fx : gFx X p s m args meth c cX11_trial 4 RX11) (n : Nat) (x0 : Nat) (x1 : Int32) (x2 : Int32) (x3 : Int32) (h0 : gK τ x0 11) {Q : State → Prop} {K : ((Int32 × gG) ⊕ ((gG))) → Prop} {G : gG} {H : Heap} {locs : List Loc} {ls : Array Slot} (hw : gHw X τ G H locs) (hl : lv_has ls 4 [(0, .ref x0), (1, .int x1), (2, .int x2), (3, .int x3)]) (hok : gOk (b_X11_trial_36 τ n x0 x1 x2 x3 G) K) (hc : ∀ (y3 : Int32) (G : gG) (H : Heap) (locs : List Loc) (ls : Array Slot), gHw X τ G H locs → lv_has ls 4 [(0, .ref x0), (1, .int x1), (2, .int x2), (3, .int y3)] → K (.inl (y3, G)) → W p l e rm_X11_trial s m args below meth c H locs 0 0 Q (F0 m 36 ls [])) (hx0 : ∀ (G : gG) (H : Heap) (locs : List Loc) (ls : Array Slot), gHw X τ G H locs → lv_has ls 4 [(0, .ref x0), (2, .int x2)] → K (.inr G) → W p l e rm_X11_trial s m args below meth c H locs 0 0 Q (F0 m 51 ls [])) : W p l e rm_X11_trial s m args below meth c H locs 0 0 Q (F0 m 36 ls []) := by
  unfold b_X11_trial_36 at hok
  refine lv_iload_n fx.1 fx.2.1 dX11_trial_36 rfl (lv_at hl 3 rfl) ?_
  refine lv_iload_n fx.1 fx.2.1 dX11_trial_37 rfl (lv_at hl 1 rfl) ?_
  refine g_icmp_ge (tgt := 51) fx dX11_trial_38 (by decide) hok (fun hok => ?_) (fun hok => ?_)
  · exact hx0  G _ _ _  hw (lv_sub hl [0, 2] rfl) (gOk_some hok)
  · refine lv_aload_n fx.1 fx.2.1 dX11_trial_41 rfl (lv_at hl 0 rfl) ?_
    obtain ⟨G6, hf, hok⟩ := gOk_bind hok
    refine g_callV0 (κ := 11) fx hw (c_X11_oneSeason l X τ n x0 G h0 hf) lv_RX11_372 ⟨rfl, rfl⟩ rfl rfl h0 rfl hl.1 rfl ⟨Nat.le_of_ble_eq_true rfl, Nat.le_of_ble_eq_true rfl⟩ (Nat.le_of_ble_eq_true rfl) ⟨Nat.le_of_ble_eq_true rfl, Nat.le_of_ble_eq_true rfl⟩ dX11_trial_42 (fun H locs hw => ?_)
    obtain ⟨v7, e_v7, hok⟩ := gOk_let hok
    refine lv_iinc (v := v7) (lv' := [(3, .int v7), (0, .ref x0), (1, .int x1), (2, .int x2)]) fx.1 fx.2.1 dX11_trial_45 hl (k := 3) rfl (by rw [e_v7]; rfl) (by decide) rfl (fun ls hl => ?_)
    refine lv_goto (tgt := 36) fx.1 fx.2.1 dX11_trial_48 (by decide) ?_
    exact hc v7 G6 _ _ _  hw (lv_sub hl [1, 2, 3, 0] rfl) (gOk_some hok)
theorem w_l_X11_trial_36 {X : gX} {τ : gτ} {p : Program} {l : Launch} {e : Env} {s : State} {m : MethodId} {args : Array Value} {below : List Frame} {meth : Method} {c : Code} (fx : gFx X p s m args meth c cX11_trial 4 RX11) (n : Nat) (x0 : Nat) (x1 : Int32) (x2 : Int32) (h0 : gK τ x0 11) {Q : State → Prop} {K : ((gG)) → Prop} (hx0 : ∀ (G : gG) (H : Heap) (locs : List Loc) (ls : Array Slot), gHw X τ G H locs → lv_has ls 4 [(0, .ref x0), (2, .int x2)] → K G → W p l e rm_X11_trial s m args below meth c H locs 0 0 Q (F0 m 51 ls [])) : ∀ (k : Nat) (x3 : Int32) (G : gG) (H : Heap) (locs : List Loc) (ls : Array Slot), gHw X τ G H locs → lv_has ls 4 [(0, .ref x0), (1, .int x1), (2, .int x2), (3, .int x3)] → gOk (gIter (fun (q : Int32 × gG) => b_X11_trial_36 τ n x0 x1 x2 q.1 q.2) k (x3, G)) K → W p l e rm_X11_trial s m args below meth c H locs 0 0 Q (F0 m 36 ls []) := by
  intro k
  induction k with
  | zero =>
    intro x3 G H locs ls hw hl hok
    exact gOk_iter0 hok
  | succ k hc =>
    intro x3 G H locs ls hw hl hok
    exact w_b_X11_trial_36 fx n x0 x1 x2 x3 h0 hw hl (gOk_iter hok) hc hx0
set_option maxHeartbeats 4000000 in
set_option maxRecDepth 100000 in
theorem w_X11_trial_77 {X : gX} {τ : gτ} {p : Program} {l : Launch} {e : Env} {s : State} {m : MethodId} {args : Array Value} {below : List Frame} {meth : Method} {c : Code} (fx : gFx X p s m args meth c cX11_trial 4 RX11) (n : Nat) (x0 : Nat) (s0 : Int32) (h0 : gK τ x0 11)  (hr : meth.sig.returnType = (some .int)) {r : Int32} {G' : gG} {G : gG} {H : Heap} {locs : List Loc} {ls : Array Slot} (hw : gHw X τ G H locs) (hl : lv_has ls 4 [(0, .ref x0)]) (hok : gOk (k_X11_trial_77 τ n x0 s0 G) (fun q => q = (r, G')))  : W p l e rm_X11_trial s m args below meth c H locs 0 0 (MQ below (gQ X τ (some (.int r)) G') args s 0 0 (gFree X)) (F0 m 77 ls [.int s0]) := by
  unfold k_X11_trial_77 at hok
  refine lv_istore_n (lv' := [(3, .int s0), (0, .ref x0)]) fx.1 fx.2.1 dX11_trial_77 rfl hl (by decide) rfl (fun ls hl => ?_)
  refine lv_aload_n fx.1 fx.2.1 dX11_trial_78 rfl (lv_at hl 1 rfl) ?_
  obtain ⟨G10, hf, hok⟩ := gOk_bind hok
  refine g_callV0 (κ := 11) fx hw (c_X11_bringsBack l X τ n x0 G h0 hf) lv_RX11_411 ⟨rfl, rfl⟩ rfl rfl h0 rfl hl.1 rfl ⟨Nat.le_of_ble_eq_true rfl, Nat.le_of_ble_eq_true rfl⟩ (Nat.le_of_ble_eq_true rfl) ⟨Nat.le_of_ble_eq_true rfl, Nat.le_of_ble_eq_true rfl⟩ dX11_trial_79 (fun H locs hw => ?_)
  refine lv_iload_n fx.1 fx.2.1 dX11_trial_82 rfl (lv_at hl 0 rfl) ?_
  cases gOk_some hok
  exact g_iret fx hw hr dX11_trial_83
set_option maxHeartbeats 4000000 in
set_option maxRecDepth 100000 in
theorem w_X11_trial_51 {X : gX} {τ : gτ} {p : Program} {l : Launch} {e : Env} {s : State} {m : MethodId} {args : Array Value} {below : List Frame} {meth : Method} {c : Code} (fx : gFx X p s m args meth c cX11_trial 4 RX11) (n : Nat) (x0 : Nat) (x2 : Int32)  (h0 : gK τ x0 11)  (hr : meth.sig.returnType = (some .int)) {r : Int32} {G' : gG} {G : gG} {H : Heap} {locs : List Loc} {ls : Array Slot} (hw : gHw X τ G H locs) (hl : lv_has ls 4 [(0, .ref x0), (2, .int x2)]) (hok : gOk (k_X11_trial_51 τ n x0 x2  G) (fun q => q = (r, G')))  : W p l e rm_X11_trial s m args below meth c H locs 0 0 (MQ below (gQ X τ (some (.int r)) G') args s 0 0 (gFree X)) (F0 m 51 ls []) := by
  unfold k_X11_trial_51 at hok
  refine lv_iload_n fx.1 fx.2.1 dX11_trial_51 rfl (lv_at hl 1 rfl) ?_
  refine g_if_eq (tgt := 73) fx dX11_trial_52 (by decide) hok (fun hok => ?_) (fun hok => ?_)
  · refine lv_aload_n fx.1 fx.2.1 dX11_trial_73 rfl (lv_at hl 0 rfl) ?_
    obtain ⟨v9, hf, hok⟩ := gOk_bind hok
    refine g_callV0 (κ := 11) fx hw (c_X11_brokenOnes l X τ n x0 G h0 hf) lv_RX11_429 ⟨rfl, rfl⟩ rfl rfl h0 rfl hl.1 rfl ⟨Nat.le_of_ble_eq_true rfl, Nat.le_of_ble_eq_true rfl⟩ (Nat.le_of_ble_eq_true rfl) ⟨Nat.le_of_ble_eq_true rfl, Nat.le_of_ble_eq_true rfl⟩ dX11_trial_74 (fun H locs hw => ?_)
    exact w_X11_trial_77 fx n x0 v9 h0  hr hw (lv_sub hl [0] rfl) hok
  · refine lv_aload_n fx.1 fx.2.1 dX11_trial_55 rfl (lv_at hl 0 rfl) ?_
    refine g_getr fx hw h0 lf_RX11_13 rfl dX11_trial_56 hok (fun a11 h_a11 hok => ?_)
    refine lv_bipush (v := 8) fx.1 fx.2.1 dX11_trial_59 (by decide) ?_
    refine g_iald fx hw h_a11 dX11_trial_61 hok (fun hok => ?_)
    refine lv_aload_n fx.1 fx.2.1 dX11_trial_62 rfl (lv_at hl 0 rfl) ?_
    refine g_getr fx hw h0 lf_RX11_23 rfl dX11_trial_63 hok (fun a12 h_a12 hok => ?_)
    refine lv_bipush (v := 8) fx.1 fx.2.1 dX11_trial_66 (by decide) ?_
    refine g_iald fx hw h_a12 dX11_trial_68 hok (fun hok => ?_)
    refine lv_isub fx.1 fx.2.1 dX11_trial_69 ?_
    refine lv_goto (tgt := 77) fx.1 fx.2.1 dX11_trial_70 (by decide) ?_
    exact w_X11_trial_77 fx n x0 ((ge G a11 (Int32.toNatClampNeg (8 : Int32))) - (ge G a12 (Int32.toNatClampNeg (8 : Int32)))) h0  hr hw (lv_sub hl [0] rfl) hok
set_option maxHeartbeats 4000000 in
set_option maxRecDepth 100000 in
theorem w_X11_trial_21 {X : gX} {τ : gτ} {p : Program} {l : Launch} {e : Env} {s : State} {m : MethodId} {args : Array Value} {below : List Frame} {meth : Method} {c : Code} (fx : gFx X p s m args meth c cX11_trial 4 RX11) (n : Nat) (x0 : Nat) (x1 : Int32) (x2 : Int32) (s0 : Nat) (s1 : Int32) (h0 : gK τ x0 11) (hs0 : gK τ s0 11) (hr : meth.sig.returnType = (some .int)) {r : Int32} {G' : gG} {G : gG} {H : Heap} {locs : List Loc} {ls : Array Slot} (hw : gHw X τ G H locs) (hl : lv_has ls 4 [(0, .ref x0), (1, .int x1), (2, .int x2)]) (hok : gOk (k_X11_trial_21 τ n x0 x1 x2 s0 s1 G) (fun q => q = (r, G')))  : W p l e rm_X11_trial s m args below meth c H locs 0 0 (MQ below (gQ X τ (some (.int r)) G') args s 0 0 (gFree X)) (F0 m 21 ls [.int s1, .ref s0]) := by
  unfold k_X11_trial_21 at hok
  refine lv_iconst (v := 1) fx.1 fx.2.1 dX11_trial_21 (by decide) ?_
  obtain ⟨v3, G4, hf, hok⟩ := gOk_bind2 hok
  refine g_callV0 (κ := 11) fx hw (c_X11_throwsIf l X τ s0 s1 (1 : Int32) G hs0 hf) lv_RX11_263 ⟨rfl, rfl⟩ rfl rfl hs0 rfl hl.1 rfl ⟨Nat.le_of_ble_eq_true rfl, Nat.le_of_ble_eq_true rfl⟩ (Nat.le_of_ble_eq_true rfl) ⟨Nat.le_of_ble_eq_true rfl, Nat.le_of_ble_eq_true rfl⟩ dX11_trial_22 (fun H locs hw => ?_)
  refine g_if_eq (tgt := 30) fx dX11_trial_25 (by decide) hok (fun hok => ?_) (fun hok => ?_)
  · refine lv_aload_n fx.1 fx.2.1 dX11_trial_30 rfl (lv_at hl 0 rfl) ?_
    obtain ⟨G5, hf, hok⟩ := gOk_bind hok
    refine g_callV0 (κ := 11) fx hw (c_X11_keepsAll l X τ n x0 G4 h0 hf) lv_RX11_408 ⟨rfl, rfl⟩ rfl rfl h0 rfl hl.1 rfl ⟨Nat.le_of_ble_eq_true rfl, Nat.le_of_ble_eq_true rfl⟩ (Nat.le_of_ble_eq_true rfl) ⟨Nat.le_of_ble_eq_true rfl, Nat.le_of_ble_eq_true rfl⟩ dX11_trial_31 (fun H locs hw => ?_)
    refine lv_iconst (v := 0) fx.1 fx.2.1 dX11_trial_34 (by decide) ?_
    refine lv_istore_n (lv' := [(3, .int (0 : Int32)), (0, .ref x0), (1, .int x1), (2, .int x2)]) fx.1 fx.2.1 dX11_trial_35 rfl hl (by decide) rfl (fun ls hl => ?_)
    refine w_l_X11_trial_36 fx n x0 x1 x2 h0 ?_ n (0 : Int32) G5 _ _ _  hw (lv_sub hl [1, 2, 3, 0] rfl) (gOk_bindK hok)
    intro G8 H locs ls hw hl hok
    have hok : gOk (ρ := Int32 × gG) (k_X11_trial_51 τ n x0 x2  G8) _ := hok
    exact w_X11_trial_51 fx n x0 x2  h0  hr hw (lv_sub hl [0, 1] rfl) hok
  · refine lv_iconst (v := 0) fx.1 fx.2.1 dX11_trial_28 (by decide) ?_
    cases gOk_some hok
    exact g_iret fx hw hr dX11_trial_29
set_option maxHeartbeats 4000000 in
set_option maxRecDepth 100000 in
theorem c_X11_trial (l : Launch) (X : gX) (τ : gτ) (n : Nat) (x0 : Nat) (x1 : Int32) (x2 : Int32) (G : gG) (h0 : gK τ x0 11) {r : Int32} {G' : gG} (h : f_X11_trial τ n x0 x1 x2 G = some (r, G')) : gM l X τ yX11_trial cX11_trial 4 (some .int) rm_X11_trial [.ref x0, .int x1, .int x2] G (some (.int r)) G' := by
  refine g_body (by decide +kernel) (Nat.le_of_ble_eq_true rfl) ?_
  intro p e s m args below meth c ls fx hr hw hl
  have fx : gFx X p s m args meth c cX11_trial 4 RX11 := fx
  have hl : lv_has ls 4 [(0, .ref x0), (1, .int x1), (2, .int x2)] := hl
  have hok : gOk (f_X11_trial τ n x0 x1 x2 G) (fun q => q = (r, G')) := ⟨_, h, rfl⟩
  unfold f_X11_trial at hok
  show W p l e rm_X11_trial s m args below meth c s.heap [] 0 0 (MQ below (gQ X τ (some (.int r)) G') args s 0 0 (gFree X)) _
  refine lv_aload_n fx.1 fx.2.1 dX11_trial_0 rfl (lv_at hl 0 rfl) ?_
  refine lv_iconst (v := 0) fx.1 fx.2.1 dX11_trial_1 (by decide) ?_
  refine g_puti fx hw h0 lp_RX11_3 rfl rfl dX11_trial_2 hok (fun G1 H locs hw hok => ?_)
  refine lv_aload_n fx.1 fx.2.1 dX11_trial_5 rfl (lv_at hl 0 rfl) ?_
  refine lv_iload_n fx.1 fx.2.1 dX11_trial_6 rfl (lv_at hl 1 rfl) ?_
  refine lv_iconst (v := 0) fx.1 fx.2.1 dX11_trial_7 (by decide) ?_
  refine lv_bipush (v := 40) fx.1 fx.2.1 dX11_trial_8 (by decide) ?_
  obtain ⟨v2, hf, hok⟩ := gOk_bind hok
  refine g_callS0 fx hw (c_X11_in l X τ x1 (0 : Int32) (40 : Int32) G1  hf) ls_RX11_69 ⟨rfl, rfl⟩ rfl hl.1 rfl ⟨Nat.le_of_ble_eq_true rfl, Nat.le_of_ble_eq_true rfl⟩ (Nat.le_of_ble_eq_true rfl) ⟨Nat.le_of_ble_eq_true rfl, Nat.le_of_ble_eq_true rfl⟩ dX11_trial_10 (fun H locs hw => ?_)
  refine g_if_ne (tgt := 20) fx dX11_trial_13 (by decide) hok (fun hok => ?_) (fun hok => ?_)
  · refine lv_iconst (v := 1) fx.1 fx.2.1 dX11_trial_16 (by decide) ?_
    refine lv_goto (tgt := 21) fx.1 fx.2.1 dX11_trial_17 (by decide) ?_
    exact w_X11_trial_21 fx n x0 x1 x2 x0 (1 : Int32) h0 h0 hr hw (lv_sub hl [0, 1, 2] rfl) hok
  · refine lv_iconst (v := 0) fx.1 fx.2.1 dX11_trial_20 (by decide) ?_
    exact w_X11_trial_21 fx n x0 x1 x2 x0 (0 : Int32) h0 h0 hr hw (lv_sub hl [0, 1, 2] rfl) hok
theorem dX11_span_0 : decode cX11_span 0 = .ok (.aload_n 0, 1) := by decide +kernel
theorem dX11_span_1 : decode cX11_span 1 = .ok (.iconst 0, 1) := by decide +kernel
theorem dX11_span_2 : decode cX11_span 2 = .ok (.putfield 3, 3) := by decide +kernel
theorem dX11_span_5 : decode cX11_span 5 = .ok (.aload_n 0, 1) := by decide +kernel
theorem dX11_span_6 : decode cX11_span 6 = .ok (.iload_n 1, 1) := by decide +kernel
theorem dX11_span_7 : decode cX11_span 7 = .ok (.iconst 0, 1) := by decide +kernel
theorem dX11_span_8 : decode cX11_span 8 = .ok (.bipush 40, 2) := by decide +kernel
theorem dX11_span_10 : decode cX11_span 10 = .ok (.invokestatic 69, 3) := by decide +kernel
theorem dX11_span_13 : decode cX11_span 13 = .ok (.ifCond .ne 7, 3) := by decide +kernel
theorem dX11_span_16 : decode cX11_span 16 = .ok (.iconst 1, 1) := by decide +kernel
theorem dX11_span_17 : decode cX11_span 17 = .ok (.goto 4, 3) := by decide +kernel
theorem dX11_span_20 : decode cX11_span 20 = .ok (.iconst 0, 1) := by decide +kernel
theorem dX11_span_21 : decode cX11_span 21 = .ok (.iconst 1, 1) := by decide +kernel
theorem dX11_span_22 : decode cX11_span 22 = .ok (.invokevirtual 263, 3) := by decide +kernel
theorem dX11_span_25 : decode cX11_span 25 = .ok (.ifCond .eq 5, 3) := by decide +kernel
theorem dX11_span_28 : decode cX11_span 28 = .ok (.iconst 0, 1) := by decide +kernel
theorem dX11_span_29 : decode cX11_span 29 = .ok (.ireturn, 1) := by decide +kernel
theorem dX11_span_30 : decode cX11_span 30 = .ok (.aload_n 0, 1) := by decide +kernel
theorem dX11_span_31 : decode cX11_span 31 = .ok (.invokevirtual 408, 3) := by decide +kernel
theorem dX11_span_34 : decode cX11_span 34 = .ok (.iconst (-1), 1) := by decide +kernel
theorem dX11_span_35 : decode cX11_span 35 = .ok (.istore_n 3, 1) := by decide +kernel
theorem dX11_span_36 : decode cX11_span 36 = .ok (.iconst 1, 1) := by decide +kernel
theorem dX11_span_37 : decode cX11_span 37 = .ok (.istore 4, 2) := by decide +kernel
theorem dX11_span_39 : decode cX11_span 39 = .ok (.iload 4, 2) := by decide +kernel
theorem dX11_span_41 : decode cX11_span 41 = .ok (.bipush 6, 2) := by decide +kernel
theorem dX11_span_43 : decode cX11_span 43 = .ok (.if_icmp .gt 79, 3) := by decide +kernel
theorem dX11_span_46 : decode cX11_span 46 = .ok (.aload_n 0, 1) := by decide +kernel
theorem dX11_span_47 : decode cX11_span 47 = .ok (.getfield 13, 3) := by decide +kernel
theorem dX11_span_50 : decode cX11_span 50 = .ok (.bipush 12, 2) := by decide +kernel
theorem dX11_span_52 : decode cX11_span 52 = .ok (.iload 4, 2) := by decide +kernel
theorem dX11_span_54 : decode cX11_span 54 = .ok (.iastore, 1) := by decide +kernel
theorem dX11_span_55 : decode cX11_span 55 = .ok (.iconst 0, 1) := by decide +kernel
theorem dX11_span_56 : decode cX11_span 56 = .ok (.istore 5, 2) := by decide +kernel
theorem dX11_span_58 : decode cX11_span 58 = .ok (.iload 5, 2) := by decide +kernel
theorem dX11_span_60 : decode cX11_span 60 = .ok (.iload_n 1, 1) := by decide +kernel
theorem dX11_span_61 : decode cX11_span 61 = .ok (.if_icmp .ge 13, 3) := by decide +kernel
theorem dX11_span_64 : decode cX11_span 64 = .ok (.aload_n 0, 1) := by decide +kernel
theorem dX11_span_65 : decode cX11_span 65 = .ok (.invokevirtual 372, 3) := by decide +kernel
theorem dX11_span_68 : decode cX11_span 68 = .ok (.iinc 5 1, 3) := by decide +kernel
theorem dX11_span_71 : decode cX11_span 71 = .ok (.goto (-13), 3) := by decide +kernel
theorem dX11_span_74 : decode cX11_span 74 = .ok (.aload_n 0, 1) := by decide +kernel
theorem dX11_span_75 : decode cX11_span 75 = .ok (.invokevirtual 429, 3) := by decide +kernel
theorem dX11_span_78 : decode cX11_span 78 = .ok (.invokestatic 273, 3) := by decide +kernel
theorem dX11_span_81 : decode cX11_span 81 = .ok (.istore 5, 2) := by decide +kernel
theorem dX11_span_83 : decode cX11_span 83 = .ok (.aload_n 0, 1) := by decide +kernel
theorem dX11_span_84 : decode cX11_span 84 = .ok (.invokevirtual 411, 3) := by decide +kernel
theorem dX11_span_87 : decode cX11_span 87 = .ok (.iload_n 3, 1) := by decide +kernel
theorem dX11_span_88 : decode cX11_span 88 = .ok (.ifCond .ge 8, 3) := by decide +kernel
theorem dX11_span_91 : decode cX11_span 91 = .ok (.iload 5, 2) := by decide +kernel
theorem dX11_span_93 : decode cX11_span 93 = .ok (.goto 22, 3) := by decide +kernel
theorem dX11_span_96 : decode cX11_span 96 = .ok (.iload_n 2, 1) := by decide +kernel
theorem dX11_span_97 : decode cX11_span 97 = .ok (.ifCond .eq 12, 3) := by decide +kernel
theorem dX11_span_100 : decode cX11_span 100 = .ok (.iload_n 3, 1) := by decide +kernel
theorem dX11_span_101 : decode cX11_span 101 = .ok (.iload 5, 2) := by decide +kernel
theorem dX11_span_103 : decode cX11_span 103 = .ok (.invokestatic 270, 3) := by decide +kernel
theorem dX11_span_106 : decode cX11_span 106 = .ok (.goto 9, 3) := by decide +kernel
theorem dX11_span_109 : decode cX11_span 109 = .ok (.iload_n 3, 1) := by decide +kernel
theorem dX11_span_110 : decode cX11_span 110 = .ok (.iload 5, 2) := by decide +kernel
theorem dX11_span_112 : decode cX11_span 112 = .ok (.invokestatic 135, 3) := by decide +kernel
theorem dX11_span_115 : decode cX11_span 115 = .ok (.istore_n 3, 1) := by decide +kernel
theorem dX11_span_116 : decode cX11_span 116 = .ok (.iinc 4 1, 3) := by decide +kernel
theorem dX11_span_119 : decode cX11_span 119 = .ok (.goto (-80), 3) := by decide +kernel
theorem dX11_span_122 : decode cX11_span 122 = .ok (.iload_n 3, 1) := by decide +kernel
theorem dX11_span_123 : decode cX11_span 123 = .ok (.ireturn, 1) := by decide +kernel
def rm_X11_span : Room := { frames := 10, cells := 0, slots := 0, locals := 229 }
def b_X11_span_58 (τ : gτ) (n : Nat) (x0 : Nat) (x1 : Int32) (x2 : Int32) (x3 : Int32) (x4 : Int32) (x5 : Int32) (G : gG) : Option ((Int32 × gG) ⊕ ((gG))) :=
  if x1 ≤ x5 then (some (.inr G))
  else ((f_X11_oneSeason τ n x0 G).bind fun G8 =>
  gLet (x5 + 1) fun v9 =>
  some (.inl (v9, G8)))
def l_X11_span_58 (τ : gτ) (n : Nat) (x0 : Nat) (x1 : Int32) (x2 : Int32) (x3 : Int32) (x4 : Int32) (x5 : Int32) (G : gG) : Option ((gG)) :=
  gIter (fun (q : Int32 × gG) => b_X11_span_58 τ n x0 x1 x2 x3 x4 q.1 q.2) n (x5, G)
def k_X11_span_74 (τ : gτ) (n : Nat) (x0 : Nat) (x1 : Int32) (x2 : Int32) (x3 : Int32) (x4 : Int32)  (G : gG) : Option ((Int32 × Int32 × gG) ⊕ ((Int32 × gG))) :=
  (f_X11_brokenOnes τ n x0 G).bind fun v11 =>
  (f_J6_bitCount_0f7a4 v11).bind fun v12 =>
  (f_X11_bringsBack τ n x0 G).bind fun G13 =>
  if 0 ≤ x3 then (if x2 = 0 then (gLet (gmin x3 v12) fun v14 =>
  gLet (x4 + 1) fun v15 =>
  some (.inl (v14, v15, G13)))
  else (gLet (gmax x3 v12) fun v16 =>
  gLet (x4 + 1) fun v17 =>
  some (.inl (v16, v17, G13))))
  else (gLet (x4 + 1) fun v18 =>
  some (.inl (v12, v18, G13)))
def b_X11_span_39 (τ : gτ) (n : Nat) (x0 : Nat) (x1 : Int32) (x2 : Int32) (x3 : Int32) (x4 : Int32) (G : gG) : Option ((Int32 × Int32 × gG) ⊕ ((Int32 × gG))) :=
  if (6 : Int32) < x4 then (some (.inr (x3, G)))
  else ((gr G 11 1 x0).bind fun a6 =>
  gchk (gIn (12 : Int32) (gn τ a6)) <| gLet (gse G a6 (Int32.toNatClampNeg (12 : Int32)) x4) fun G7 =>
  (l_X11_span_58 τ n x0 x1 x2 x3 x4 (0 : Int32) G7).bind fun q => gLet q fun G10 => 
  k_X11_span_74 τ n x0 x1 x2 x3 x4  G10)
def l_X11_span_39 (τ : gτ) (n : Nat) (x0 : Nat) (x1 : Int32) (x2 : Int32) (x3 : Int32) (x4 : Int32) (G : gG) : Option ((Int32 × gG)) :=
  gIter (fun (q : Int32 × Int32 × gG) => b_X11_span_39 τ n x0 x1 x2 q.1 q.2.1 q.2.2) n (x3, x4, G)
def k_X11_span_21 (τ : gτ) (n : Nat) (x0 : Nat) (x1 : Int32) (x2 : Int32) (s0 : Nat) (s1 : Int32) (G : gG) : Option (Int32 × gG) :=
  gBind2 (f_X11_throwsIf s0 s1 (1 : Int32) G) fun v3 G4 =>
  if v3 = 0 then ((f_X11_keepsAll τ n x0 G4).bind fun G5 =>
  (l_X11_span_39 τ n x0 x1 x2 (-1 : Int32) (1 : Int32) G5).bind fun q => gLet q.1 fun z19 => gLet q.2 fun G20 => 
  some (z19, G20))
  else (some (0, G4))
def f_X11_span (τ : gτ) (n : Nat) (x0 : Nat) (x1 : Int32) (x2 : Int32) (G : gG) : Option (Int32 × gG) :=
  gLet (gsi G 11 0 x0 (0 : Int32)) fun G1 =>
  (f_X11_in x1 (0 : Int32) (40 : Int32)).bind fun v2 =>
  if v2 = 0 then (k_X11_span_21 τ n x0 x1 x2 x0 (1 : Int32) G1)
  else (k_X11_span_21 τ n x0 x1 x2 x0 (0 : Int32) G1)
set_option maxHeartbeats 4000000 in
set_option maxRecDepth 100000 in
theorem w_b_X11_span_58 {X : gX} {τ : gτ} {p : Program} {l : Launch} {e : Env} {s : State} {m : MethodId} {args : Array Value} {below : List Frame} {meth : Method} {c : Code} (fx : gFx X p s m args meth c cX11_span 6 RX11) (n : Nat) (x0 : Nat) (x1 : Int32) (x2 : Int32) (x3 : Int32) (x4 : Int32) (x5 : Int32) (h0 : gK τ x0 11) {Q : State → Prop} {K : ((Int32 × gG) ⊕ ((gG))) → Prop} {G : gG} {H : Heap} {locs : List Loc} {ls : Array Slot} (hw : gHw X τ G H locs) (hl : lv_has ls 6 [(0, .ref x0), (1, .int x1), (2, .int x2), (3, .int x3), (4, .int x4), (5, .int x5)]) (hok : gOk (b_X11_span_58 τ n x0 x1 x2 x3 x4 x5 G) K) (hc : ∀ (y5 : Int32) (G : gG) (H : Heap) (locs : List Loc) (ls : Array Slot), gHw X τ G H locs → lv_has ls 6 [(0, .ref x0), (1, .int x1), (2, .int x2), (3, .int x3), (4, .int x4), (5, .int y5)] → K (.inl (y5, G)) → W p l e rm_X11_span s m args below meth c H locs 0 0 Q (F0 m 58 ls [])) (hx0 : ∀ (G : gG) (H : Heap) (locs : List Loc) (ls : Array Slot), gHw X τ G H locs → lv_has ls 6 [(0, .ref x0), (1, .int x1), (2, .int x2), (3, .int x3), (4, .int x4)] → K (.inr G) → W p l e rm_X11_span s m args below meth c H locs 0 0 Q (F0 m 74 ls [])) : W p l e rm_X11_span s m args below meth c H locs 0 0 Q (F0 m 58 ls []) := by
  unfold b_X11_span_58 at hok
  refine lv_iload fx.1 fx.2.1 dX11_span_58 (lv_at hl 5 rfl) ?_
  refine lv_iload_n fx.1 fx.2.1 dX11_span_60 rfl (lv_at hl 1 rfl) ?_
  refine g_icmp_ge (tgt := 74) fx dX11_span_61 (by decide) hok (fun hok => ?_) (fun hok => ?_)
  · exact hx0  G _ _ _  hw (lv_sub hl [0, 1, 2, 3, 4] rfl) (gOk_some hok)
  · refine lv_aload_n fx.1 fx.2.1 dX11_span_64 rfl (lv_at hl 0 rfl) ?_
    obtain ⟨G8, hf, hok⟩ := gOk_bind hok
    refine g_callV0 (κ := 11) fx hw (c_X11_oneSeason l X τ n x0 G h0 hf) lv_RX11_372 ⟨rfl, rfl⟩ rfl rfl h0 rfl hl.1 rfl ⟨Nat.le_of_ble_eq_true rfl, Nat.le_of_ble_eq_true rfl⟩ (Nat.le_of_ble_eq_true rfl) ⟨Nat.le_of_ble_eq_true rfl, Nat.le_of_ble_eq_true rfl⟩ dX11_span_65 (fun H locs hw => ?_)
    obtain ⟨v9, e_v9, hok⟩ := gOk_let hok
    refine lv_iinc (v := v9) (lv' := [(5, .int v9), (0, .ref x0), (1, .int x1), (2, .int x2), (3, .int x3), (4, .int x4)]) fx.1 fx.2.1 dX11_span_68 hl (k := 5) rfl (by rw [e_v9]; rfl) (by decide) rfl (fun ls hl => ?_)
    refine lv_goto (tgt := 58) fx.1 fx.2.1 dX11_span_71 (by decide) ?_
    exact hc v9 G8 _ _ _  hw (lv_sub hl [1, 2, 3, 4, 5, 0] rfl) (gOk_some hok)
theorem w_l_X11_span_58 {X : gX} {τ : gτ} {p : Program} {l : Launch} {e : Env} {s : State} {m : MethodId} {args : Array Value} {below : List Frame} {meth : Method} {c : Code} (fx : gFx X p s m args meth c cX11_span 6 RX11) (n : Nat) (x0 : Nat) (x1 : Int32) (x2 : Int32) (x3 : Int32) (x4 : Int32) (h0 : gK τ x0 11) {Q : State → Prop} {K : ((gG)) → Prop} (hx0 : ∀ (G : gG) (H : Heap) (locs : List Loc) (ls : Array Slot), gHw X τ G H locs → lv_has ls 6 [(0, .ref x0), (1, .int x1), (2, .int x2), (3, .int x3), (4, .int x4)] → K G → W p l e rm_X11_span s m args below meth c H locs 0 0 Q (F0 m 74 ls [])) : ∀ (k : Nat) (x5 : Int32) (G : gG) (H : Heap) (locs : List Loc) (ls : Array Slot), gHw X τ G H locs → lv_has ls 6 [(0, .ref x0), (1, .int x1), (2, .int x2), (3, .int x3), (4, .int x4), (5, .int x5)] → gOk (gIter (fun (q : Int32 × gG) => b_X11_span_58 τ n x0 x1 x2 x3 x4 q.1 q.2) k (x5, G)) K → W p l e rm_X11_span s m args below meth c H locs 0 0 Q (F0 m 58 ls []) := by
  intro k
  induction k with
  | zero =>
    intro x5 G H locs ls hw hl hok
    exact gOk_iter0 hok
  | succ k hc =>
    intro x5 G H locs ls hw hl hok
    exact w_b_X11_span_58 fx n x0 x1 x2 x3 x4 x5 h0 hw hl (gOk_iter hok) hc hx0
set_option maxHeartbeats 4000000 in
set_option maxRecDepth 100000 in
theorem w_X11_span_74 {X : gX} {τ : gτ} {p : Program} {l : Launch} {e : Env} {s : State} {m : MethodId} {args : Array Value} {below : List Frame} {meth : Method} {c : Code} (fx : gFx X p s m args meth c cX11_span 6 RX11) (n : Nat) (x0 : Nat) (x1 : Int32) (x2 : Int32) (x3 : Int32) (x4 : Int32)  (h0 : gK τ x0 11)  {Q : State → Prop} {K : ((Int32 × Int32 × gG) ⊕ ((Int32 × gG))) → Prop} {G : gG} {H : Heap} {locs : List Loc} {ls : Array Slot} (hw : gHw X τ G H locs) (hl : lv_has ls 6 [(0, .ref x0), (1, .int x1), (2, .int x2), (3, .int x3), (4, .int x4)]) (hok : gOk (k_X11_span_74 τ n x0 x1 x2 x3 x4  G) K) (hc : ∀ (y3 : Int32) (y4 : Int32) (G : gG) (H : Heap) (locs : List Loc) (ls : Array Slot), gHw X τ G H locs → lv_has ls 6 [(0, .ref x0), (1, .int x1), (2, .int x2), (3, .int y3), (4, .int y4)] → K (.inl (y3, y4, G)) → W p l e rm_X11_span s m args below meth c H locs 0 0 Q (F0 m 39 ls [])) (hx0 : ∀ (y3 : Int32) (G : gG) (H : Heap) (locs : List Loc) (ls : Array Slot), gHw X τ G H locs → lv_has ls 6 [(3, .int y3)] → K (.inr (y3, G)) → W p l e rm_X11_span s m args below meth c H locs 0 0 Q (F0 m 122 ls [])) : W p l e rm_X11_span s m args below meth c H locs 0 0 Q (F0 m 74 ls []) := by
  unfold k_X11_span_74 at hok
  refine lv_aload_n fx.1 fx.2.1 dX11_span_74 rfl (lv_at hl 0 rfl) ?_
  obtain ⟨v11, hf, hok⟩ := gOk_bind hok
  refine g_callV0 (κ := 11) fx hw (c_X11_brokenOnes l X τ n x0 G h0 hf) lv_RX11_429 ⟨rfl, rfl⟩ rfl rfl h0 rfl hl.1 rfl ⟨Nat.le_of_ble_eq_true rfl, Nat.le_of_ble_eq_true rfl⟩ (Nat.le_of_ble_eq_true rfl) ⟨Nat.le_of_ble_eq_true rfl, Nat.le_of_ble_eq_true rfl⟩ dX11_span_75 (fun H locs hw => ?_)
  obtain ⟨v12, hf, hok⟩ := gOk_bind hok
  refine g_callS0 fx hw (c_J6_bitCount_0f7a4 l X τ v11 G  hf) ls_RX11_273 ⟨rfl, rfl⟩ rfl hl.1 rfl ⟨Nat.le_of_ble_eq_true rfl, Nat.le_of_ble_eq_true rfl⟩ (Nat.le_of_ble_eq_true rfl) ⟨Nat.le_of_ble_eq_true rfl, Nat.le_of_ble_eq_true rfl⟩ dX11_span_78 (fun H locs hw => ?_)
  refine lv_istore (lv' := [(5, .int v12), (0, .ref x0), (1, .int x1), (2, .int x2), (3, .int x3), (4, .int x4)]) fx.1 fx.2.1 dX11_span_81 hl (by decide) rfl (fun ls hl => ?_)
  refine lv_aload_n fx.1 fx.2.1 dX11_span_83 rfl (lv_at hl 1 rfl) ?_
  obtain ⟨G13, hf, hok⟩ := gOk_bind hok
  refine g_callV0 (κ := 11) fx hw (c_X11_bringsBack l X τ n x0 G h0 hf) lv_RX11_411 ⟨rfl, rfl⟩ rfl rfl h0 rfl hl.1 rfl ⟨Nat.le_of_ble_eq_true rfl, Nat.le_of_ble_eq_true rfl⟩ (Nat.le_of_ble_eq_true rfl) ⟨Nat.le_of_ble_eq_true rfl, Nat.le_of_ble_eq_true rfl⟩ dX11_span_84 (fun H locs hw => ?_)
  refine lv_iload_n fx.1 fx.2.1 dX11_span_87 rfl (lv_at hl 4 rfl) ?_
  refine g_if_ge (tgt := 96) fx dX11_span_88 (by decide) hok (fun hok => ?_) (fun hok => ?_)
  · refine lv_iload_n fx.1 fx.2.1 dX11_span_96 rfl (lv_at hl 3 rfl) ?_
    refine g_if_eq (tgt := 109) fx dX11_span_97 (by decide) hok (fun hok => ?_) (fun hok => ?_)
    · refine lv_iload_n fx.1 fx.2.1 dX11_span_109 rfl (lv_at hl 4 rfl) ?_
      refine lv_iload fx.1 fx.2.1 dX11_span_110 (lv_at hl 0 rfl) ?_
      refine g_mmin fx hl.1 lm_RX11_135 lmst_min lm_init lmco_min ⟨Nat.le_of_ble_eq_true rfl, Nat.le_of_ble_eq_true rfl, Nat.le_of_ble_eq_true rfl, Nat.le_of_ble_eq_true rfl⟩ dX11_span_112 ?_
      refine g_leti hok (fun v14 hok => ?_)
      refine lv_istore_n (lv' := [(3, .int v14), (5, .int v12), (0, .ref x0), (1, .int x1), (2, .int x2), (4, .int x4)]) fx.1 fx.2.1 dX11_span_115 rfl hl (by decide) rfl (fun ls hl => ?_)
      obtain ⟨v15, e_v15, hok⟩ := gOk_let hok
      refine lv_iinc (v := v15) (lv' := [(4, .int v15), (3, .int v14), (5, .int v12), (0, .ref x0), (1, .int x1), (2, .int x2)]) fx.1 fx.2.1 dX11_span_116 hl (k := 5) rfl (by rw [e_v15]; rfl) (by decide) rfl (fun ls hl => ?_)
      refine lv_goto (tgt := 39) fx.1 fx.2.1 dX11_span_119 (by decide) ?_
      exact hc v14 v15 G13 _ _ _  hw (lv_sub hl [3, 4, 5, 1, 0] rfl) (gOk_some hok)
    · refine lv_iload_n fx.1 fx.2.1 dX11_span_100 rfl (lv_at hl 4 rfl) ?_
      refine lv_iload fx.1 fx.2.1 dX11_span_101 (lv_at hl 0 rfl) ?_
      refine g_mmax fx hl.1 lm_RX11_270 lmst_max lm_init lmco_max ⟨Nat.le_of_ble_eq_true rfl, Nat.le_of_ble_eq_true rfl, Nat.le_of_ble_eq_true rfl, Nat.le_of_ble_eq_true rfl⟩ dX11_span_103 ?_
      refine lv_goto (tgt := 115) fx.1 fx.2.1 dX11_span_106 (by decide) ?_
      refine g_leti hok (fun v16 hok => ?_)
      refine lv_istore_n (lv' := [(3, .int v16), (5, .int v12), (0, .ref x0), (1, .int x1), (2, .int x2), (4, .int x4)]) fx.1 fx.2.1 dX11_span_115 rfl hl (by decide) rfl (fun ls hl => ?_)
      obtain ⟨v17, e_v17, hok⟩ := gOk_let hok
      refine lv_iinc (v := v17) (lv' := [(4, .int v17), (3, .int v16), (5, .int v12), (0, .ref x0), (1, .int x1), (2, .int x2)]) fx.1 fx.2.1 dX11_span_116 hl (k := 5) rfl (by rw [e_v17]; rfl) (by decide) rfl (fun ls hl => ?_)
      refine lv_goto (tgt := 39) fx.1 fx.2.1 dX11_span_119 (by decide) ?_
      exact hc v16 v17 G13 _ _ _  hw (lv_sub hl [3, 4, 5, 1, 0] rfl) (gOk_some hok)
  · refine lv_iload fx.1 fx.2.1 dX11_span_91 (lv_at hl 0 rfl) ?_
    refine lv_goto (tgt := 115) fx.1 fx.2.1 dX11_span_93 (by decide) ?_
    refine lv_istore_n (lv' := [(3, .int v12), (5, .int v12), (0, .ref x0), (1, .int x1), (2, .int x2), (4, .int x4)]) fx.1 fx.2.1 dX11_span_115 rfl hl (by decide) rfl (fun ls hl => ?_)
    obtain ⟨v18, e_v18, hok⟩ := gOk_let hok
    refine lv_iinc (v := v18) (lv' := [(4, .int v18), (3, .int v12), (5, .int v12), (0, .ref x0), (1, .int x1), (2, .int x2)]) fx.1 fx.2.1 dX11_span_116 hl (k := 5) rfl (by rw [e_v18]; rfl) (by decide) rfl (fun ls hl => ?_)
    refine lv_goto (tgt := 39) fx.1 fx.2.1 dX11_span_119 (by decide) ?_
    exact hc v12 v18 G13 _ _ _  hw (lv_sub hl [3, 4, 5, 1, 0] rfl) (gOk_some hok)
set_option maxHeartbeats 4000000 in
set_option maxRecDepth 100000 in
theorem w_b_X11_span_39 {X : gX} {τ : gτ} {p : Program} {l : Launch} {e : Env} {s : State} {m : MethodId} {args : Array Value} {below : List Frame} {meth : Method} {c : Code} (fx : gFx X p s m args meth c cX11_span 6 RX11) (n : Nat) (x0 : Nat) (x1 : Int32) (x2 : Int32) (x3 : Int32) (x4 : Int32) (h0 : gK τ x0 11) {Q : State → Prop} {K : ((Int32 × Int32 × gG) ⊕ ((Int32 × gG))) → Prop} {G : gG} {H : Heap} {locs : List Loc} {ls : Array Slot} (hw : gHw X τ G H locs) (hl : lv_has ls 6 [(0, .ref x0), (1, .int x1), (2, .int x2), (3, .int x3), (4, .int x4)]) (hok : gOk (b_X11_span_39 τ n x0 x1 x2 x3 x4 G) K) (hc : ∀ (y3 : Int32) (y4 : Int32) (G : gG) (H : Heap) (locs : List Loc) (ls : Array Slot), gHw X τ G H locs → lv_has ls 6 [(0, .ref x0), (1, .int x1), (2, .int x2), (3, .int y3), (4, .int y4)] → K (.inl (y3, y4, G)) → W p l e rm_X11_span s m args below meth c H locs 0 0 Q (F0 m 39 ls [])) (hx0 : ∀ (y3 : Int32) (G : gG) (H : Heap) (locs : List Loc) (ls : Array Slot), gHw X τ G H locs → lv_has ls 6 [(3, .int y3)] → K (.inr (y3, G)) → W p l e rm_X11_span s m args below meth c H locs 0 0 Q (F0 m 122 ls [])) : W p l e rm_X11_span s m args below meth c H locs 0 0 Q (F0 m 39 ls []) := by
  unfold b_X11_span_39 at hok
  refine lv_iload fx.1 fx.2.1 dX11_span_39 (lv_at hl 4 rfl) ?_
  refine lv_bipush (v := 6) fx.1 fx.2.1 dX11_span_41 (by decide) ?_
  refine g_icmp_gt (tgt := 122) fx dX11_span_43 (by decide) hok (fun hok => ?_) (fun hok => ?_)
  · exact hx0 x3 G _ _ _  hw (lv_sub hl [3] rfl) (gOk_some hok)
  · refine lv_aload_n fx.1 fx.2.1 dX11_span_46 rfl (lv_at hl 0 rfl) ?_
    refine g_getr fx hw h0 lf_RX11_13 rfl dX11_span_47 hok (fun a6 h_a6 hok => ?_)
    refine lv_bipush (v := 12) fx.1 fx.2.1 dX11_span_50 (by decide) ?_
    refine lv_iload fx.1 fx.2.1 dX11_span_52 (lv_at hl 4 rfl) ?_
    refine g_iast fx hw h_a6 dX11_span_54 hok (fun G7 H locs hw hok => ?_)
    refine lv_iconst (v := 0) fx.1 fx.2.1 dX11_span_55 (by decide) ?_
    refine lv_istore (lv' := [(5, .int (0 : Int32)), (0, .ref x0), (1, .int x1), (2, .int x2), (3, .int x3), (4, .int x4)]) fx.1 fx.2.1 dX11_span_56 hl (by decide) rfl (fun ls hl => ?_)
    refine w_l_X11_span_58 fx n x0 x1 x2 x3 x4 h0 ?_ n (0 : Int32) G7 _ _ _  hw (lv_sub hl [1, 2, 3, 4, 5, 0] rfl) (gOk_bindK hok)
    intro G10 H locs ls hw hl hok
    have hok : gOk (ρ := (Int32 × Int32 × gG) ⊕ ((Int32 × gG))) (k_X11_span_74 τ n x0 x1 x2 x3 x4  G10) _ := hok
    exact w_X11_span_74 fx n x0 x1 x2 x3 x4  h0  hw (lv_sub hl [0, 1, 2, 3, 4] rfl) hok hc hx0
theorem w_l_X11_span_39 {X : gX} {τ : gτ} {p : Program} {l : Launch} {e : Env} {s : State} {m : MethodId} {args : Array Value} {below : List Frame} {meth : Method} {c : Code} (fx : gFx X p s m args meth c cX11_span 6 RX11) (n : Nat) (x0 : Nat) (x1 : Int32) (x2 : Int32) (h0 : gK τ x0 11) {Q : State → Prop} {K : ((Int32 × gG)) → Prop} (hx0 : ∀ (y3 : Int32) (G : gG) (H : Heap) (locs : List Loc) (ls : Array Slot), gHw X τ G H locs → lv_has ls 6 [(3, .int y3)] → K (y3, G) → W p l e rm_X11_span s m args below meth c H locs 0 0 Q (F0 m 122 ls [])) : ∀ (k : Nat) (x3 : Int32) (x4 : Int32) (G : gG) (H : Heap) (locs : List Loc) (ls : Array Slot), gHw X τ G H locs → lv_has ls 6 [(0, .ref x0), (1, .int x1), (2, .int x2), (3, .int x3), (4, .int x4)] → gOk (gIter (fun (q : Int32 × Int32 × gG) => b_X11_span_39 τ n x0 x1 x2 q.1 q.2.1 q.2.2) k (x3, x4, G)) K → W p l e rm_X11_span s m args below meth c H locs 0 0 Q (F0 m 39 ls []) := by
  intro k
  induction k with
  | zero =>
    intro x3 x4 G H locs ls hw hl hok
    exact gOk_iter0 hok
  | succ k hc =>
    intro x3 x4 G H locs ls hw hl hok
    exact w_b_X11_span_39 fx n x0 x1 x2 x3 x4 h0 hw hl (gOk_iter hok) hc hx0
set_option maxHeartbeats 4000000 in
set_option maxRecDepth 100000 in
theorem w_X11_span_21 {X : gX} {τ : gτ} {p : Program} {l : Launch} {e : Env} {s : State} {m : MethodId} {args : Array Value} {below : List Frame} {meth : Method} {c : Code} (fx : gFx X p s m args meth c cX11_span 6 RX11) (n : Nat) (x0 : Nat) (x1 : Int32) (x2 : Int32) (s0 : Nat) (s1 : Int32) (h0 : gK τ x0 11) (hs0 : gK τ s0 11) (hr : meth.sig.returnType = (some .int)) {r : Int32} {G' : gG} {G : gG} {H : Heap} {locs : List Loc} {ls : Array Slot} (hw : gHw X τ G H locs) (hl : lv_has ls 6 [(0, .ref x0), (1, .int x1), (2, .int x2)]) (hok : gOk (k_X11_span_21 τ n x0 x1 x2 s0 s1 G) (fun q => q = (r, G')))  : W p l e rm_X11_span s m args below meth c H locs 0 0 (MQ below (gQ X τ (some (.int r)) G') args s 0 0 (gFree X)) (F0 m 21 ls [.int s1, .ref s0]) := by
  unfold k_X11_span_21 at hok
  refine lv_iconst (v := 1) fx.1 fx.2.1 dX11_span_21 (by decide) ?_
  obtain ⟨v3, G4, hf, hok⟩ := gOk_bind2 hok
  refine g_callV0 (κ := 11) fx hw (c_X11_throwsIf l X τ s0 s1 (1 : Int32) G hs0 hf) lv_RX11_263 ⟨rfl, rfl⟩ rfl rfl hs0 rfl hl.1 rfl ⟨Nat.le_of_ble_eq_true rfl, Nat.le_of_ble_eq_true rfl⟩ (Nat.le_of_ble_eq_true rfl) ⟨Nat.le_of_ble_eq_true rfl, Nat.le_of_ble_eq_true rfl⟩ dX11_span_22 (fun H locs hw => ?_)
  refine g_if_eq (tgt := 30) fx dX11_span_25 (by decide) hok (fun hok => ?_) (fun hok => ?_)
  · refine lv_aload_n fx.1 fx.2.1 dX11_span_30 rfl (lv_at hl 0 rfl) ?_
    obtain ⟨G5, hf, hok⟩ := gOk_bind hok
    refine g_callV0 (κ := 11) fx hw (c_X11_keepsAll l X τ n x0 G4 h0 hf) lv_RX11_408 ⟨rfl, rfl⟩ rfl rfl h0 rfl hl.1 rfl ⟨Nat.le_of_ble_eq_true rfl, Nat.le_of_ble_eq_true rfl⟩ (Nat.le_of_ble_eq_true rfl) ⟨Nat.le_of_ble_eq_true rfl, Nat.le_of_ble_eq_true rfl⟩ dX11_span_31 (fun H locs hw => ?_)
    refine lv_iconst (v := (-1)) fx.1 fx.2.1 dX11_span_34 (by decide) ?_
    refine lv_istore_n (lv' := [(3, .int (-1 : Int32)), (0, .ref x0), (1, .int x1), (2, .int x2)]) fx.1 fx.2.1 dX11_span_35 rfl hl (by decide) rfl (fun ls hl => ?_)
    refine lv_iconst (v := 1) fx.1 fx.2.1 dX11_span_36 (by decide) ?_
    refine lv_istore (lv' := [(4, .int (1 : Int32)), (3, .int (-1 : Int32)), (0, .ref x0), (1, .int x1), (2, .int x2)]) fx.1 fx.2.1 dX11_span_37 hl (by decide) rfl (fun ls hl => ?_)
    refine w_l_X11_span_39 fx n x0 x1 x2 h0 ?_ n (-1 : Int32) (1 : Int32) G5 _ _ _  hw (lv_sub hl [2, 3, 4, 1, 0] rfl) (gOk_bindK hok)
    intro z19 G20 H locs ls hw hl hok
    have hok : gOk (ρ := Int32 × gG) (some (z19, G20)) _ := hok
    refine lv_iload_n fx.1 fx.2.1 dX11_span_122 rfl (lv_at hl 0 rfl) ?_
    cases gOk_some hok
    exact g_iret fx hw hr dX11_span_123
  · refine lv_iconst (v := 0) fx.1 fx.2.1 dX11_span_28 (by decide) ?_
    cases gOk_some hok
    exact g_iret fx hw hr dX11_span_29
set_option maxHeartbeats 4000000 in
set_option maxRecDepth 100000 in
theorem c_X11_span (l : Launch) (X : gX) (τ : gτ) (n : Nat) (x0 : Nat) (x1 : Int32) (x2 : Int32) (G : gG) (h0 : gK τ x0 11) {r : Int32} {G' : gG} (h : f_X11_span τ n x0 x1 x2 G = some (r, G')) : gM l X τ yX11_span cX11_span 6 (some .int) rm_X11_span [.ref x0, .int x1, .int x2] G (some (.int r)) G' := by
  refine g_body (by decide +kernel) (Nat.le_of_ble_eq_true rfl) ?_
  intro p e s m args below meth c ls fx hr hw hl
  have fx : gFx X p s m args meth c cX11_span 6 RX11 := fx
  have hl : lv_has ls 6 [(0, .ref x0), (1, .int x1), (2, .int x2)] := hl
  have hok : gOk (f_X11_span τ n x0 x1 x2 G) (fun q => q = (r, G')) := ⟨_, h, rfl⟩
  unfold f_X11_span at hok
  show W p l e rm_X11_span s m args below meth c s.heap [] 0 0 (MQ below (gQ X τ (some (.int r)) G') args s 0 0 (gFree X)) _
  refine lv_aload_n fx.1 fx.2.1 dX11_span_0 rfl (lv_at hl 0 rfl) ?_
  refine lv_iconst (v := 0) fx.1 fx.2.1 dX11_span_1 (by decide) ?_
  refine g_puti fx hw h0 lp_RX11_3 rfl rfl dX11_span_2 hok (fun G1 H locs hw hok => ?_)
  refine lv_aload_n fx.1 fx.2.1 dX11_span_5 rfl (lv_at hl 0 rfl) ?_
  refine lv_iload_n fx.1 fx.2.1 dX11_span_6 rfl (lv_at hl 1 rfl) ?_
  refine lv_iconst (v := 0) fx.1 fx.2.1 dX11_span_7 (by decide) ?_
  refine lv_bipush (v := 40) fx.1 fx.2.1 dX11_span_8 (by decide) ?_
  obtain ⟨v2, hf, hok⟩ := gOk_bind hok
  refine g_callS0 fx hw (c_X11_in l X τ x1 (0 : Int32) (40 : Int32) G1  hf) ls_RX11_69 ⟨rfl, rfl⟩ rfl hl.1 rfl ⟨Nat.le_of_ble_eq_true rfl, Nat.le_of_ble_eq_true rfl⟩ (Nat.le_of_ble_eq_true rfl) ⟨Nat.le_of_ble_eq_true rfl, Nat.le_of_ble_eq_true rfl⟩ dX11_span_10 (fun H locs hw => ?_)
  refine g_if_ne (tgt := 20) fx dX11_span_13 (by decide) hok (fun hok => ?_) (fun hok => ?_)
  · refine lv_iconst (v := 1) fx.1 fx.2.1 dX11_span_16 (by decide) ?_
    refine lv_goto (tgt := 21) fx.1 fx.2.1 dX11_span_17 (by decide) ?_
    exact w_X11_span_21 fx n x0 x1 x2 x0 (1 : Int32) h0 h0 hr hw (lv_sub hl [0, 1, 2] rfl) hok
  · refine lv_iconst (v := 0) fx.1 fx.2.1 dX11_span_20 (by decide) ?_
    exact w_X11_span_21 fx n x0 x1 x2 x0 (0 : Int32) h0 h0 hr hw (lv_sub hl [0, 1, 2] rfl) hok
theorem dX11_ofLog_0 : decode cX11_ofLog 0 = .ok (.aload_n 0, 1) := by decide +kernel
theorem dX11_ofLog_1 : decode cX11_ofLog 1 = .ok (.getfield 13, 3) := by decide +kernel
theorem dX11_ofLog_4 : decode cX11_ofLog 4 = .ok (.sipush 167, 3) := by decide +kernel
theorem dX11_ofLog_7 : decode cX11_ofLog 7 = .ok (.iconst 5, 1) := by decide +kernel
theorem dX11_ofLog_8 : decode cX11_ofLog 8 = .ok (.iload_n 1, 1) := by decide +kernel
theorem dX11_ofLog_9 : decode cX11_ofLog 9 = .ok (.imul, 1) := by decide +kernel
theorem dX11_ofLog_10 : decode cX11_ofLog 10 = .ok (.iadd, 1) := by decide +kernel
theorem dX11_ofLog_11 : decode cX11_ofLog 11 = .ok (.iload_n 2, 1) := by decide +kernel
theorem dX11_ofLog_12 : decode cX11_ofLog 12 = .ok (.iadd, 1) := by decide +kernel
theorem dX11_ofLog_13 : decode cX11_ofLog 13 = .ok (.iaload, 1) := by decide +kernel
theorem dX11_ofLog_14 : decode cX11_ofLog 14 = .ok (.ireturn, 1) := by decide +kernel
def rm_X11_ofLog : Room := { frames := 0, cells := 0, slots := 0, locals := 0 }
def f_X11_ofLog (τ : gτ) (x0 : Nat) (x1 : Int32) (x2 : Int32) (G : gG) : Option (Int32) :=
  (gr G 11 1 x0).bind fun a1 =>
  gchk (gIn (((167 : Int32) + ((5 : Int32) * x1)) + x2) (gn τ a1)) <|
  some (ge G a1 (Int32.toNatClampNeg (((167 : Int32) + ((5 : Int32) * x1)) + x2)))
set_option maxHeartbeats 4000000 in
set_option maxRecDepth 100000 in
theorem c_X11_ofLog (l : Launch) (X : gX) (τ : gτ) (x0 : Nat) (x1 : Int32) (x2 : Int32) (G : gG) (h0 : gK τ x0 11) {r : Int32}  (h : f_X11_ofLog τ x0 x1 x2 G = some r) : gM l X τ yX11_ofLog cX11_ofLog 3 (some .int) rm_X11_ofLog [.ref x0, .int x1, .int x2] G (some (.int r)) G := by
  refine g_body (by decide +kernel) (Nat.le_of_ble_eq_true rfl) ?_
  intro p e s m args below meth c ls fx hr hw hl
  have fx : gFx X p s m args meth c cX11_ofLog 3 RX11 := fx
  have hl : lv_has ls 3 [(0, .ref x0), (1, .int x1), (2, .int x2)] := hl
  have hok : gOk (f_X11_ofLog τ x0 x1 x2 G) (fun q => q = r) := ⟨_, h, rfl⟩
  unfold f_X11_ofLog at hok
  show W p l e rm_X11_ofLog s m args below meth c s.heap [] 0 0 (MQ below (gQ X τ (some (.int r)) G) args s 0 0 (gFree X)) _
  refine lv_aload_n fx.1 fx.2.1 dX11_ofLog_0 rfl (lv_at hl 0 rfl) ?_
  refine g_getr fx hw h0 lf_RX11_13 rfl dX11_ofLog_1 hok (fun a1 h_a1 hok => ?_)
  refine lv_sipush (v := 167) fx.1 fx.2.1 dX11_ofLog_4 (by decide) ?_
  refine lv_iconst (v := 5) fx.1 fx.2.1 dX11_ofLog_7 (by decide) ?_
  refine lv_iload_n fx.1 fx.2.1 dX11_ofLog_8 rfl (lv_at hl 1 rfl) ?_
  refine lv_imul fx.1 fx.2.1 dX11_ofLog_9 ?_
  refine lv_iadd fx.1 fx.2.1 dX11_ofLog_10 ?_
  refine lv_iload_n fx.1 fx.2.1 dX11_ofLog_11 rfl (lv_at hl 2 rfl) ?_
  refine lv_iadd fx.1 fx.2.1 dX11_ofLog_12 ?_
  refine g_iald fx hw h_a1 dX11_ofLog_13 hok (fun hok => ?_)
  cases gOk_some hok
  exact g_iret fx hw hr dX11_ofLog_14
theorem dX11_isIn_0 : decode cX11_isIn 0 = .ok (.aload_n 0, 1) := by decide +kernel
theorem dX11_isIn_1 : decode cX11_isIn 1 = .ok (.iload_n 1, 1) := by decide +kernel
theorem dX11_isIn_2 : decode cX11_isIn 2 = .ok (.iconst 1, 1) := by decide +kernel
theorem dX11_isIn_3 : decode cX11_isIn 3 = .ok (.invokevirtual 432, 3) := by decide +kernel
theorem dX11_isIn_6 : decode cX11_isIn 6 = .ok (.iload_n 2, 1) := by decide +kernel
theorem dX11_isIn_7 : decode cX11_isIn 7 = .ok (.if_icmp .eq 23, 3) := by decide +kernel
theorem dX11_isIn_10 : decode cX11_isIn 10 = .ok (.aload_n 0, 1) := by decide +kernel
theorem dX11_isIn_11 : decode cX11_isIn 11 = .ok (.iload_n 1, 1) := by decide +kernel
theorem dX11_isIn_12 : decode cX11_isIn 12 = .ok (.iconst 2, 1) := by decide +kernel
theorem dX11_isIn_13 : decode cX11_isIn 13 = .ok (.invokevirtual 432, 3) := by decide +kernel
theorem dX11_isIn_16 : decode cX11_isIn 16 = .ok (.iload_n 2, 1) := by decide +kernel
theorem dX11_isIn_17 : decode cX11_isIn 17 = .ok (.if_icmp .eq 13, 3) := by decide +kernel
theorem dX11_isIn_20 : decode cX11_isIn 20 = .ok (.aload_n 0, 1) := by decide +kernel
theorem dX11_isIn_21 : decode cX11_isIn 21 = .ok (.iload_n 1, 1) := by decide +kernel
theorem dX11_isIn_22 : decode cX11_isIn 22 = .ok (.iconst 3, 1) := by decide +kernel
theorem dX11_isIn_23 : decode cX11_isIn 23 = .ok (.invokevirtual 432, 3) := by decide +kernel
theorem dX11_isIn_26 : decode cX11_isIn 26 = .ok (.iload_n 2, 1) := by decide +kernel
theorem dX11_isIn_27 : decode cX11_isIn 27 = .ok (.if_icmp .ne 7, 3) := by decide +kernel
theorem dX11_isIn_30 : decode cX11_isIn 30 = .ok (.iconst 1, 1) := by decide +kernel
theorem dX11_isIn_31 : decode cX11_isIn 31 = .ok (.goto 4, 3) := by decide +kernel
theorem dX11_isIn_34 : decode cX11_isIn 34 = .ok (.iconst 0, 1) := by decide +kernel
theorem dX11_isIn_35 : decode cX11_isIn 35 = .ok (.ireturn, 1) := by decide +kernel
theorem lv_RX11_432 : gLv RX11 432 RX11 yX11_ofLog cX11_ofLog 3 (some .int) 2 := gLv_of (wA_t (wt9 (List.mem_of_getElem? (i := 99) (by decide +kernel))) (by decide +kernel)) (wA_t (wt9 (List.mem_of_getElem? (i := 101) (by decide +kernel))) (by decide +kernel)) (wA_of (List.mem_append_left _ (List.mem_map.mpr ⟨(⟨"YearRopeModel", "ofLog", "(II)I"⟩, 20), wp8 (List.mem_of_getElem? (i := 13) (by decide +kernel)), rfl⟩)) (by decide +kernel)) (wA_t (wt1 (List.mem_of_getElem? (i := 12) (by decide +kernel))) (by decide +kernel)) (wA_t (wt9 (List.mem_of_getElem? (i := 102) (by decide +kernel))) (by decide +kernel)) ⟨rfl, by decide +kernel, by decide +kernel, by decide +kernel⟩
def rm_X11_isIn : Room := { frames := 1, cells := 0, slots := 0, locals := 22 }
def f_X11_isIn (τ : gτ) (x0 : Nat) (x1 : Int32) (x2 : Int32) (G : gG) : Option (Int32) :=
  (f_X11_ofLog τ x0 x1 (1 : Int32) G).bind fun v1 =>
  if v1 = x2 then (some (1))
  else ((f_X11_ofLog τ x0 x1 (2 : Int32) G).bind fun v2 =>
  if v2 = x2 then (some (1))
  else ((f_X11_ofLog τ x0 x1 (3 : Int32) G).bind fun v3 =>
  if v3 = x2 then (some (1))
  else (some (0))))
set_option maxHeartbeats 4000000 in
set_option maxRecDepth 100000 in
theorem c_X11_isIn (l : Launch) (X : gX) (τ : gτ) (x0 : Nat) (x1 : Int32) (x2 : Int32) (G : gG) (h0 : gK τ x0 11) {r : Int32}  (h : f_X11_isIn τ x0 x1 x2 G = some r) : gM l X τ yX11_isIn cX11_isIn 3 (some .boolean) rm_X11_isIn [.ref x0, .int x1, .int x2] G (some (.int r)) G := by
  refine g_body (by decide +kernel) (Nat.le_of_ble_eq_true rfl) ?_
  intro p e s m args below meth c ls fx hr hw hl
  have fx : gFx X p s m args meth c cX11_isIn 3 RX11 := fx
  have hl : lv_has ls 3 [(0, .ref x0), (1, .int x1), (2, .int x2)] := hl
  have hok : gOk (f_X11_isIn τ x0 x1 x2 G) (fun q => q = r) := ⟨_, h, rfl⟩
  unfold f_X11_isIn at hok
  show W p l e rm_X11_isIn s m args below meth c s.heap [] 0 0 (MQ below (gQ X τ (some (.int r)) G) args s 0 0 (gFree X)) _
  refine lv_aload_n fx.1 fx.2.1 dX11_isIn_0 rfl (lv_at hl 0 rfl) ?_
  refine lv_iload_n fx.1 fx.2.1 dX11_isIn_1 rfl (lv_at hl 1 rfl) ?_
  refine lv_iconst (v := 1) fx.1 fx.2.1 dX11_isIn_2 (by decide) ?_
  obtain ⟨v1, hf, hok⟩ := gOk_bind hok
  refine g_callV0 (κ := 11) fx hw (c_X11_ofLog l X τ x0 x1 (1 : Int32) G h0 hf) lv_RX11_432 ⟨rfl, rfl⟩ rfl rfl h0 rfl hl.1 rfl ⟨Nat.le_of_ble_eq_true rfl, Nat.le_of_ble_eq_true rfl⟩ (Nat.le_of_ble_eq_true rfl) ⟨Nat.le_of_ble_eq_true rfl, Nat.le_of_ble_eq_true rfl⟩ dX11_isIn_3 (fun H locs hw => ?_)
  refine lv_iload_n fx.1 fx.2.1 dX11_isIn_6 rfl (lv_at hl 2 rfl) ?_
  refine g_icmp_eq (tgt := 30) fx dX11_isIn_7 (by decide) hok (fun hok => ?_) (fun hok => ?_)
  · refine lv_iconst (v := 1) fx.1 fx.2.1 dX11_isIn_30 (by decide) ?_
    refine lv_goto (tgt := 35) fx.1 fx.2.1 dX11_isIn_31 (by decide) ?_
    cases gOk_some hok
    exact g_zret fx hw hr (by decide) dX11_isIn_35
  · refine lv_aload_n fx.1 fx.2.1 dX11_isIn_10 rfl (lv_at hl 0 rfl) ?_
    refine lv_iload_n fx.1 fx.2.1 dX11_isIn_11 rfl (lv_at hl 1 rfl) ?_
    refine lv_iconst (v := 2) fx.1 fx.2.1 dX11_isIn_12 (by decide) ?_
    obtain ⟨v2, hf, hok⟩ := gOk_bind hok
    refine g_callV0 (κ := 11) fx hw (c_X11_ofLog l X τ x0 x1 (2 : Int32) G h0 hf) lv_RX11_432 ⟨rfl, rfl⟩ rfl rfl h0 rfl hl.1 rfl ⟨Nat.le_of_ble_eq_true rfl, Nat.le_of_ble_eq_true rfl⟩ (Nat.le_of_ble_eq_true rfl) ⟨Nat.le_of_ble_eq_true rfl, Nat.le_of_ble_eq_true rfl⟩ dX11_isIn_13 (fun H locs hw => ?_)
    refine lv_iload_n fx.1 fx.2.1 dX11_isIn_16 rfl (lv_at hl 2 rfl) ?_
    refine g_icmp_eq (tgt := 30) fx dX11_isIn_17 (by decide) hok (fun hok => ?_) (fun hok => ?_)
    · refine lv_iconst (v := 1) fx.1 fx.2.1 dX11_isIn_30 (by decide) ?_
      refine lv_goto (tgt := 35) fx.1 fx.2.1 dX11_isIn_31 (by decide) ?_
      cases gOk_some hok
      exact g_zret fx hw hr (by decide) dX11_isIn_35
    · refine lv_aload_n fx.1 fx.2.1 dX11_isIn_20 rfl (lv_at hl 0 rfl) ?_
      refine lv_iload_n fx.1 fx.2.1 dX11_isIn_21 rfl (lv_at hl 1 rfl) ?_
      refine lv_iconst (v := 3) fx.1 fx.2.1 dX11_isIn_22 (by decide) ?_
      obtain ⟨v3, hf, hok⟩ := gOk_bind hok
      refine g_callV0 (κ := 11) fx hw (c_X11_ofLog l X τ x0 x1 (3 : Int32) G h0 hf) lv_RX11_432 ⟨rfl, rfl⟩ rfl rfl h0 rfl hl.1 rfl ⟨Nat.le_of_ble_eq_true rfl, Nat.le_of_ble_eq_true rfl⟩ (Nat.le_of_ble_eq_true rfl) ⟨Nat.le_of_ble_eq_true rfl, Nat.le_of_ble_eq_true rfl⟩ dX11_isIn_23 (fun H locs hw => ?_)
      refine lv_iload_n fx.1 fx.2.1 dX11_isIn_26 rfl (lv_at hl 2 rfl) ?_
      refine g_icmp_ne (tgt := 34) fx dX11_isIn_27 (by decide) hok (fun hok => ?_) (fun hok => ?_)
      · refine lv_iconst (v := 1) fx.1 fx.2.1 dX11_isIn_30 (by decide) ?_
        refine lv_goto (tgt := 35) fx.1 fx.2.1 dX11_isIn_31 (by decide) ?_
        cases gOk_some hok
        exact g_zret fx hw hr (by decide) dX11_isIn_35
      · refine lv_iconst (v := 0) fx.1 fx.2.1 dX11_isIn_34 (by decide) ?_
        cases gOk_some hok
        exact g_zret fx hw hr (by decide) dX11_isIn_35
