theorem dX11_led_0 : decode cX11_led 0 = .ok (.aload_n 0, 1) := by decide +kernel
theorem dX11_led_1 : decode cX11_led 1 = .ok (.iconst 0, 1) := by decide +kernel
theorem dX11_led_2 : decode cX11_led 2 = .ok (.putfield 3, 3) := by decide +kernel
theorem dX11_led_5 : decode cX11_led 5 = .ok (.aload_n 0, 1) := by decide +kernel
theorem dX11_led_6 : decode cX11_led 6 = .ok (.aload_n 0, 1) := by decide +kernel
theorem dX11_led_7 : decode cX11_led 7 = .ok (.iload_n 1, 1) := by decide +kernel
theorem dX11_led_8 : decode cX11_led 8 = .ok (.invokevirtual 315, 3) := by decide +kernel
theorem dX11_led_11 : decode cX11_led 11 = .ok (.iconst 1, 1) := by decide +kernel
theorem dX11_led_12 : decode cX11_led 12 = .ok (.invokevirtual 263, 3) := by decide +kernel
theorem dX11_led_15 : decode cX11_led 15 = .ok (.ifCond .eq 5, 3) := by decide +kernel
theorem dX11_led_18 : decode cX11_led 18 = .ok (.iconst 0, 1) := by decide +kernel
theorem dX11_led_19 : decode cX11_led 19 = .ok (.ireturn, 1) := by decide +kernel
theorem dX11_led_20 : decode cX11_led 20 = .ok (.iconst 0, 1) := by decide +kernel
theorem dX11_led_21 : decode cX11_led 21 = .ok (.istore_n 3, 1) := by decide +kernel
theorem dX11_led_22 : decode cX11_led 22 = .ok (.iconst 0, 1) := by decide +kernel
theorem dX11_led_23 : decode cX11_led 23 = .ok (.istore 4, 2) := by decide +kernel
theorem dX11_led_25 : decode cX11_led 25 = .ok (.iload 4, 2) := by decide +kernel
theorem dX11_led_27 : decode cX11_led 27 = .ok (.aload_n 0, 1) := by decide +kernel
theorem dX11_led_28 : decode cX11_led 28 = .ok (.getfield 13, 3) := by decide +kernel
theorem dX11_led_31 : decode cX11_led 31 = .ok (.bipush 11, 2) := by decide +kernel
theorem dX11_led_33 : decode cX11_led 33 = .ok (.iaload, 1) := by decide +kernel
theorem dX11_led_34 : decode cX11_led 34 = .ok (.if_icmp .ge 41, 3) := by decide +kernel
theorem dX11_led_37 : decode cX11_led 37 = .ok (.iload_n 3, 1) := by decide +kernel
theorem dX11_led_38 : decode cX11_led 38 = .ok (.aload_n 0, 1) := by decide +kernel
theorem dX11_led_39 : decode cX11_led 39 = .ok (.iload 4, 2) := by decide +kernel
theorem dX11_led_41 : decode cX11_led 41 = .ok (.iload_n 1, 1) := by decide +kernel
theorem dX11_led_42 : decode cX11_led 42 = .ok (.invokevirtual 435, 3) := by decide +kernel
theorem dX11_led_45 : decode cX11_led 45 = .ok (.ifCond .ne 7, 3) := by decide +kernel
theorem dX11_led_48 : decode cX11_led 48 = .ok (.iconst 0, 1) := by decide +kernel
theorem dX11_led_49 : decode cX11_led 49 = .ok (.goto 18, 3) := by decide +kernel
theorem dX11_led_52 : decode cX11_led 52 = .ok (.iload_n 2, 1) := by decide +kernel
theorem dX11_led_53 : decode cX11_led 53 = .ok (.ifCond .eq 13, 3) := by decide +kernel
theorem dX11_led_56 : decode cX11_led 56 = .ok (.aload_n 0, 1) := by decide +kernel
theorem dX11_led_57 : decode cX11_led 57 = .ok (.iload 4, 2) := by decide +kernel
theorem dX11_led_59 : decode cX11_led 59 = .ok (.iconst 4, 1) := by decide +kernel
theorem dX11_led_60 : decode cX11_led 60 = .ok (.invokevirtual 432, 3) := by decide +kernel
theorem dX11_led_63 : decode cX11_led 63 = .ok (.goto 4, 3) := by decide +kernel
theorem dX11_led_66 : decode cX11_led 66 = .ok (.iconst 1, 1) := by decide +kernel
theorem dX11_led_67 : decode cX11_led 67 = .ok (.iadd, 1) := by decide +kernel
theorem dX11_led_68 : decode cX11_led 68 = .ok (.istore_n 3, 1) := by decide +kernel
theorem dX11_led_69 : decode cX11_led 69 = .ok (.iinc 4 1, 3) := by decide +kernel
theorem dX11_led_72 : decode cX11_led 72 = .ok (.goto (-47), 3) := by decide +kernel
theorem dX11_led_75 : decode cX11_led 75 = .ok (.iload_n 3, 1) := by decide +kernel
theorem dX11_led_76 : decode cX11_led 76 = .ok (.ireturn, 1) := by decide +kernel
theorem lv_RX11_435 : gLv RX11 435 RX11 yX11_isIn cX11_isIn 3 (some .boolean) 2 := gLv_of (wA_t (wt9 (List.mem_of_getElem? (i := 95) (by decide +kernel))) (by decide +kernel)) (wA_t (wt9 (List.mem_of_getElem? (i := 97) (by decide +kernel))) (by decide +kernel)) (wA_of (List.mem_append_left _ (List.mem_map.mpr ⟨(⟨"YearRopeModel", "isIn", "(II)Z"⟩, 20), wp8 (List.mem_of_getElem? (i := 12) (by decide +kernel)), rfl⟩)) (by decide +kernel)) (wA_t (wt1 (List.mem_of_getElem? (i := 12) (by decide +kernel))) (by decide +kernel)) (wA_t (wt9 (List.mem_of_getElem? (i := 98) (by decide +kernel))) (by decide +kernel)) ⟨rfl, by decide +kernel, by decide +kernel, by decide +kernel⟩
def rm_X11_led : Room := { frames := 2, cells := 0, slots := 0, locals := 44 }
def k_X11_led_67 (τ : gτ) (n : Nat) (x0 : Nat) (x1 : Int32) (x2 : Int32) (x4 : Int32) (s0 : Int32) (s1 : Int32) (G : gG) : Option ((Int32 × Int32) ⊕ ((Int32))) :=
  gLet (s0 + s1) fun v7 =>
  gLet (x4 + 1) fun v8 =>
  some (.inl (v7, v8))
def b_X11_led_25 (τ : gτ) (n : Nat) (x0 : Nat) (x1 : Int32) (x2 : Int32) (x3 : Int32) (x4 : Int32) (G : gG) : Option ((Int32 × Int32) ⊕ ((Int32))) :=
  (gr G 11 1 x0).bind fun a5 =>
  gchk (gIn (11 : Int32) (gn τ a5)) <|
  if (ge G a5 (Int32.toNatClampNeg (11 : Int32))) ≤ x4 then (some (.inr x3))
  else ((f_X11_isIn τ x0 x4 x1 G).bind fun v6 =>
  if v6 = 0 then (k_X11_led_67 τ n x0 x1 x2 x4 x3 (0 : Int32) G)
  else (if x2 = 0 then (k_X11_led_67 τ n x0 x1 x2 x4 x3 (1 : Int32) G)
  else ((f_X11_ofLog τ x0 x4 (4 : Int32) G).bind fun v9 =>
  k_X11_led_67 τ n x0 x1 x2 x4 x3 v9 G)))
def l_X11_led_25 (τ : gτ) (n : Nat) (x0 : Nat) (x1 : Int32) (x2 : Int32) (x3 : Int32) (x4 : Int32) (G : gG) : Option ((Int32)) :=
  gIter (fun (q : Int32 × Int32) => b_X11_led_25 τ n x0 x1 x2 q.1 q.2 G) n (x3, x4)
def f_X11_led (τ : gτ) (n : Nat) (x0 : Nat) (x1 : Int32) (x2 : Int32) (G : gG) : Option (Int32 × gG) :=
  gLet (gsi G 11 0 x0 (0 : Int32)) fun G1 =>
  (f_X11_noYarn τ x0 x1 G1).bind fun v2 =>
  gBind2 (f_X11_throwsIf x0 v2 (1 : Int32) G1) fun v3 G4 =>
  if v3 = 0 then ((l_X11_led_25 τ n x0 x1 x2 (0 : Int32) (0 : Int32) G4).bind fun q => gLet q fun z10 => 
  some (z10, G4))
  else (some (0, G4))
set_option maxHeartbeats 4000000 in
set_option maxRecDepth 100000 in
theorem w_X11_led_67 {X : gX} {τ : gτ} {p : Program} {l : Launch} {e : Env} {s : State} {m : MethodId} {args : Array Value} {below : List Frame} {meth : Method} {c : Code} (fx : gFx X p s m args meth c cX11_led 5 RX11) (n : Nat) (x0 : Nat) (x1 : Int32) (x2 : Int32) (x4 : Int32) (s0 : Int32) (s1 : Int32) (h0 : gK τ x0 11)  {Q : State → Prop} {K : ((Int32 × Int32) ⊕ ((Int32))) → Prop} {G : gG} {H : Heap} {locs : List Loc} {ls : Array Slot} (hw : gHw X τ G H locs) (hl : lv_has ls 5 [(0, .ref x0), (1, .int x1), (2, .int x2), (4, .int x4)]) (hok : gOk (k_X11_led_67 τ n x0 x1 x2 x4 s0 s1 G) K) (hc : ∀ (y3 : Int32) (y4 : Int32) (H : Heap) (locs : List Loc) (ls : Array Slot), gHw X τ G H locs → lv_has ls 5 [(0, .ref x0), (1, .int x1), (2, .int x2), (3, .int y3), (4, .int y4)] → K (.inl (y3, y4)) → W p l e rm_X11_led s m args below meth c H locs 0 0 Q (F0 m 25 ls [])) (hx0 : ∀ (y3 : Int32) (H : Heap) (locs : List Loc) (ls : Array Slot), gHw X τ G H locs → lv_has ls 5 [(3, .int y3)] → K (.inr y3) → W p l e rm_X11_led s m args below meth c H locs 0 0 Q (F0 m 75 ls [])) : W p l e rm_X11_led s m args below meth c H locs 0 0 Q (F0 m 67 ls [.int s1, .int s0]) := by
  unfold k_X11_led_67 at hok
  refine lv_iadd fx.1 fx.2.1 dX11_led_67 ?_
  refine g_leti hok (fun v7 hok => ?_)
  refine lv_istore_n (lv' := [(3, .int v7), (0, .ref x0), (1, .int x1), (2, .int x2), (4, .int x4)]) fx.1 fx.2.1 dX11_led_68 rfl hl (by decide) rfl (fun ls hl => ?_)
  obtain ⟨v8, e_v8, hok⟩ := gOk_let hok
  refine lv_iinc (v := v8) (lv' := [(4, .int v8), (3, .int v7), (0, .ref x0), (1, .int x1), (2, .int x2)]) fx.1 fx.2.1 dX11_led_69 hl (k := 4) rfl (by rw [e_v8]; rfl) (by decide) rfl (fun ls hl => ?_)
  refine lv_goto (tgt := 25) fx.1 fx.2.1 dX11_led_72 (by decide) ?_
  exact hc v7 v8  _ _ _  hw (lv_sub hl [2, 3, 4, 1, 0] rfl) (gOk_some hok)
set_option maxHeartbeats 4000000 in
set_option maxRecDepth 100000 in
theorem w_b_X11_led_25 {X : gX} {τ : gτ} {p : Program} {l : Launch} {e : Env} {s : State} {m : MethodId} {args : Array Value} {below : List Frame} {meth : Method} {c : Code} (fx : gFx X p s m args meth c cX11_led 5 RX11) (n : Nat) (x0 : Nat) (x1 : Int32) (x2 : Int32) (x3 : Int32) (x4 : Int32) (h0 : gK τ x0 11) {Q : State → Prop} {K : ((Int32 × Int32) ⊕ ((Int32))) → Prop} {G : gG} {H : Heap} {locs : List Loc} {ls : Array Slot} (hw : gHw X τ G H locs) (hl : lv_has ls 5 [(0, .ref x0), (1, .int x1), (2, .int x2), (3, .int x3), (4, .int x4)]) (hok : gOk (b_X11_led_25 τ n x0 x1 x2 x3 x4 G) K) (hc : ∀ (y3 : Int32) (y4 : Int32) (H : Heap) (locs : List Loc) (ls : Array Slot), gHw X τ G H locs → lv_has ls 5 [(0, .ref x0), (1, .int x1), (2, .int x2), (3, .int y3), (4, .int y4)] → K (.inl (y3, y4)) → W p l e rm_X11_led s m args below meth c H locs 0 0 Q (F0 m 25 ls [])) (hx0 : ∀ (y3 : Int32) (H : Heap) (locs : List Loc) (ls : Array Slot), gHw X τ G H locs → lv_has ls 5 [(3, .int y3)] → K (.inr y3) → W p l e rm_X11_led s m args below meth c H locs 0 0 Q (F0 m 75 ls [])) : W p l e rm_X11_led s m args below meth c H locs 0 0 Q (F0 m 25 ls []) := by
  unfold b_X11_led_25 at hok
  refine lv_iload fx.1 fx.2.1 dX11_led_25 (lv_at hl 4 rfl) ?_
  refine lv_aload_n fx.1 fx.2.1 dX11_led_27 rfl (lv_at hl 0 rfl) ?_
  refine g_getr fx hw h0 lf_RX11_13 rfl dX11_led_28 hok (fun a5 h_a5 hok => ?_)
  refine lv_bipush (v := 11) fx.1 fx.2.1 dX11_led_31 (by decide) ?_
  refine g_iald fx hw h_a5 dX11_led_33 hok (fun hok => ?_)
  refine g_icmp_ge (tgt := 75) fx dX11_led_34 (by decide) hok (fun hok => ?_) (fun hok => ?_)
  · exact hx0 x3  _ _ _  hw (lv_sub hl [3] rfl) (gOk_some hok)
  · refine lv_iload_n fx.1 fx.2.1 dX11_led_37 rfl (lv_at hl 3 rfl) ?_
    refine lv_aload_n fx.1 fx.2.1 dX11_led_38 rfl (lv_at hl 0 rfl) ?_
    refine lv_iload fx.1 fx.2.1 dX11_led_39 (lv_at hl 4 rfl) ?_
    refine lv_iload_n fx.1 fx.2.1 dX11_led_41 rfl (lv_at hl 1 rfl) ?_
    obtain ⟨v6, hf, hok⟩ := gOk_bind hok
    refine g_callV0 (κ := 11) fx hw (c_X11_isIn l X τ x0 x4 x1 G h0 hf) lv_RX11_435 ⟨rfl, rfl⟩ rfl rfl h0 rfl hl.1 rfl ⟨Nat.le_of_ble_eq_true rfl, Nat.le_of_ble_eq_true rfl⟩ (Nat.le_of_ble_eq_true rfl) ⟨Nat.le_of_ble_eq_true rfl, Nat.le_of_ble_eq_true rfl⟩ dX11_led_42 (fun H locs hw => ?_)
    refine g_if_ne (tgt := 52) fx dX11_led_45 (by decide) hok (fun hok => ?_) (fun hok => ?_)
    · refine lv_iconst (v := 0) fx.1 fx.2.1 dX11_led_48 (by decide) ?_
      refine lv_goto (tgt := 67) fx.1 fx.2.1 dX11_led_49 (by decide) ?_
      exact w_X11_led_67 fx n x0 x1 x2 x4 x3 (0 : Int32) h0  hw (lv_sub hl [0, 1, 2, 4] rfl) hok hc hx0
    · refine lv_iload_n fx.1 fx.2.1 dX11_led_52 rfl (lv_at hl 2 rfl) ?_
      refine g_if_eq (tgt := 66) fx dX11_led_53 (by decide) hok (fun hok => ?_) (fun hok => ?_)
      · refine lv_iconst (v := 1) fx.1 fx.2.1 dX11_led_66 (by decide) ?_
        exact w_X11_led_67 fx n x0 x1 x2 x4 x3 (1 : Int32) h0  hw (lv_sub hl [0, 1, 2, 4] rfl) hok hc hx0
      · refine lv_aload_n fx.1 fx.2.1 dX11_led_56 rfl (lv_at hl 0 rfl) ?_
        refine lv_iload fx.1 fx.2.1 dX11_led_57 (lv_at hl 4 rfl) ?_
        refine lv_iconst (v := 4) fx.1 fx.2.1 dX11_led_59 (by decide) ?_
        obtain ⟨v9, hf, hok⟩ := gOk_bind hok
        refine g_callV0 (κ := 11) fx hw (c_X11_ofLog l X τ x0 x4 (4 : Int32) G h0 hf) lv_RX11_432 ⟨rfl, rfl⟩ rfl rfl h0 rfl hl.1 rfl ⟨Nat.le_of_ble_eq_true rfl, Nat.le_of_ble_eq_true rfl⟩ (Nat.le_of_ble_eq_true rfl) ⟨Nat.le_of_ble_eq_true rfl, Nat.le_of_ble_eq_true rfl⟩ dX11_led_60 (fun H locs hw => ?_)
        refine lv_goto (tgt := 67) fx.1 fx.2.1 dX11_led_63 (by decide) ?_
        exact w_X11_led_67 fx n x0 x1 x2 x4 x3 v9 h0  hw (lv_sub hl [0, 1, 2, 4] rfl) hok hc hx0
theorem w_l_X11_led_25 {X : gX} {τ : gτ} {p : Program} {l : Launch} {e : Env} {s : State} {m : MethodId} {args : Array Value} {below : List Frame} {meth : Method} {c : Code} (fx : gFx X p s m args meth c cX11_led 5 RX11) (n : Nat) (x0 : Nat) (x1 : Int32) (x2 : Int32) (h0 : gK τ x0 11) (G : gG) {Q : State → Prop} {K : ((Int32)) → Prop} (hx0 : ∀ (y3 : Int32) (H : Heap) (locs : List Loc) (ls : Array Slot), gHw X τ G H locs → lv_has ls 5 [(3, .int y3)] → K y3 → W p l e rm_X11_led s m args below meth c H locs 0 0 Q (F0 m 75 ls [])) : ∀ (k : Nat) (x3 : Int32) (x4 : Int32) (H : Heap) (locs : List Loc) (ls : Array Slot), gHw X τ G H locs → lv_has ls 5 [(0, .ref x0), (1, .int x1), (2, .int x2), (3, .int x3), (4, .int x4)] → gOk (gIter (fun (q : Int32 × Int32) => b_X11_led_25 τ n x0 x1 x2 q.1 q.2 G) k (x3, x4)) K → W p l e rm_X11_led s m args below meth c H locs 0 0 Q (F0 m 25 ls []) := by
  intro k
  induction k with
  | zero =>
    intro x3 x4  H locs ls hw hl hok
    exact gOk_iter0 hok
  | succ k hc =>
    intro x3 x4  H locs ls hw hl hok
    exact w_b_X11_led_25 fx n x0 x1 x2 x3 x4 h0 hw hl (gOk_iter hok) hc hx0
set_option maxHeartbeats 4000000 in
set_option maxRecDepth 100000 in
theorem c_X11_led (l : Launch) (X : gX) (τ : gτ) (n : Nat) (x0 : Nat) (x1 : Int32) (x2 : Int32) (G : gG) (h0 : gK τ x0 11) {r : Int32} {G' : gG} (h : f_X11_led τ n x0 x1 x2 G = some (r, G')) : gM l X τ yX11_led cX11_led 5 (some .int) rm_X11_led [.ref x0, .int x1, .int x2] G (some (.int r)) G' := by
  refine g_body (by decide +kernel) (Nat.le_of_ble_eq_true rfl) ?_
  intro p e s m args below meth c ls fx hr hw hl
  have fx : gFx X p s m args meth c cX11_led 5 RX11 := fx
  have hl : lv_has ls 5 [(0, .ref x0), (1, .int x1), (2, .int x2)] := hl
  have hok : gOk (f_X11_led τ n x0 x1 x2 G) (fun q => q = (r, G')) := ⟨_, h, rfl⟩
  unfold f_X11_led at hok
  show W p l e rm_X11_led s m args below meth c s.heap [] 0 0 (MQ below (gQ X τ (some (.int r)) G') args s 0 0 (gFree X)) _
  refine lv_aload_n fx.1 fx.2.1 dX11_led_0 rfl (lv_at hl 0 rfl) ?_
  refine lv_iconst (v := 0) fx.1 fx.2.1 dX11_led_1 (by decide) ?_
  refine g_puti fx hw h0 lp_RX11_3 rfl rfl dX11_led_2 hok (fun G1 H locs hw hok => ?_)
  refine lv_aload_n fx.1 fx.2.1 dX11_led_5 rfl (lv_at hl 0 rfl) ?_
  refine lv_aload_n fx.1 fx.2.1 dX11_led_6 rfl (lv_at hl 0 rfl) ?_
  refine lv_iload_n fx.1 fx.2.1 dX11_led_7 rfl (lv_at hl 1 rfl) ?_
  obtain ⟨v2, hf, hok⟩ := gOk_bind hok
  refine g_callV0 (κ := 11) fx hw (c_X11_noYarn l X τ x0 x1 G1 h0 hf) lv_RX11_315 ⟨rfl, rfl⟩ rfl rfl h0 rfl hl.1 rfl ⟨Nat.le_of_ble_eq_true rfl, Nat.le_of_ble_eq_true rfl⟩ (Nat.le_of_ble_eq_true rfl) ⟨Nat.le_of_ble_eq_true rfl, Nat.le_of_ble_eq_true rfl⟩ dX11_led_8 (fun H locs hw => ?_)
  refine lv_iconst (v := 1) fx.1 fx.2.1 dX11_led_11 (by decide) ?_
  obtain ⟨v3, G4, hf, hok⟩ := gOk_bind2 hok
  refine g_callV0 (κ := 11) fx hw (c_X11_throwsIf l X τ x0 v2 (1 : Int32) G1 h0 hf) lv_RX11_263 ⟨rfl, rfl⟩ rfl rfl h0 rfl hl.1 rfl ⟨Nat.le_of_ble_eq_true rfl, Nat.le_of_ble_eq_true rfl⟩ (Nat.le_of_ble_eq_true rfl) ⟨Nat.le_of_ble_eq_true rfl, Nat.le_of_ble_eq_true rfl⟩ dX11_led_12 (fun H locs hw => ?_)
  refine g_if_eq (tgt := 20) fx dX11_led_15 (by decide) hok (fun hok => ?_) (fun hok => ?_)
  · refine lv_iconst (v := 0) fx.1 fx.2.1 dX11_led_20 (by decide) ?_
    refine lv_istore_n (lv' := [(3, .int (0 : Int32)), (0, .ref x0), (1, .int x1), (2, .int x2)]) fx.1 fx.2.1 dX11_led_21 rfl hl (by decide) rfl (fun ls hl => ?_)
    refine lv_iconst (v := 0) fx.1 fx.2.1 dX11_led_22 (by decide) ?_
    refine lv_istore (lv' := [(4, .int (0 : Int32)), (3, .int (0 : Int32)), (0, .ref x0), (1, .int x1), (2, .int x2)]) fx.1 fx.2.1 dX11_led_23 hl (by decide) rfl (fun ls hl => ?_)
    refine w_l_X11_led_25 fx n x0 x1 x2 h0 G4 ?_ n (0 : Int32) (0 : Int32)  _ _ _  hw (lv_sub hl [2, 3, 4, 1, 0] rfl) (gOk_bindK hok)
    intro z10  H locs ls hw hl hok
    have hok : gOk (ρ := Int32 × gG) (some (z10, G4)) _ := hok
    refine lv_iload_n fx.1 fx.2.1 dX11_led_75 rfl (lv_at hl 0 rfl) ?_
    cases gOk_some hok
    exact g_iret fx hw hr dX11_led_76
  · refine lv_iconst (v := 0) fx.1 fx.2.1 dX11_led_18 (by decide) ?_
    cases gOk_some hok
    exact g_iret fx hw hr dX11_led_19
theorem dX11_log_0 : decode cX11_log 0 = .ok (.aload_n 0, 1) := by decide +kernel
theorem dX11_log_1 : decode cX11_log 1 = .ok (.iconst 0, 1) := by decide +kernel
theorem dX11_log_2 : decode cX11_log 2 = .ok (.putfield 3, 3) := by decide +kernel
theorem dX11_log_5 : decode cX11_log 5 = .ok (.aload_n 0, 1) := by decide +kernel
theorem dX11_log_6 : decode cX11_log 6 = .ok (.iload_n 2, 1) := by decide +kernel
theorem dX11_log_7 : decode cX11_log 7 = .ok (.iconst 0, 1) := by decide +kernel
theorem dX11_log_8 : decode cX11_log 8 = .ok (.iconst 4, 1) := by decide +kernel
theorem dX11_log_9 : decode cX11_log 9 = .ok (.invokestatic 69, 3) := by decide +kernel
theorem dX11_log_12 : decode cX11_log 12 = .ok (.ifCond .ne 7, 3) := by decide +kernel
theorem dX11_log_15 : decode cX11_log 15 = .ok (.iconst 1, 1) := by decide +kernel
theorem dX11_log_16 : decode cX11_log 16 = .ok (.goto 4, 3) := by decide +kernel
theorem dX11_log_19 : decode cX11_log 19 = .ok (.iconst 0, 1) := by decide +kernel
theorem dX11_log_20 : decode cX11_log 20 = .ok (.iconst 1, 1) := by decide +kernel
theorem dX11_log_21 : decode cX11_log 21 = .ok (.invokevirtual 263, 3) := by decide +kernel
theorem dX11_log_24 : decode cX11_log 24 = .ok (.ifCond .eq 5, 3) := by decide +kernel
theorem dX11_log_27 : decode cX11_log 27 = .ok (.iconst 0, 1) := by decide +kernel
theorem dX11_log_28 : decode cX11_log 28 = .ok (.ireturn, 1) := by decide +kernel
theorem dX11_log_29 : decode cX11_log 29 = .ok (.iload_n 1, 1) := by decide +kernel
theorem dX11_log_30 : decode cX11_log 30 = .ok (.iconst 0, 1) := by decide +kernel
theorem dX11_log_31 : decode cX11_log 31 = .ok (.aload_n 0, 1) := by decide +kernel
theorem dX11_log_32 : decode cX11_log 32 = .ok (.getfield 13, 3) := by decide +kernel
theorem dX11_log_35 : decode cX11_log 35 = .ok (.bipush 11, 2) := by decide +kernel
theorem dX11_log_37 : decode cX11_log 37 = .ok (.iaload, 1) := by decide +kernel
theorem dX11_log_38 : decode cX11_log 38 = .ok (.iconst 1, 1) := by decide +kernel
theorem dX11_log_39 : decode cX11_log 39 = .ok (.isub, 1) := by decide +kernel
theorem dX11_log_40 : decode cX11_log 40 = .ok (.invokestatic 69, 3) := by decide +kernel
theorem dX11_log_43 : decode cX11_log 43 = .ok (.ifCond .eq 12, 3) := by decide +kernel
theorem dX11_log_46 : decode cX11_log 46 = .ok (.aload_n 0, 1) := by decide +kernel
theorem dX11_log_47 : decode cX11_log 47 = .ok (.iload_n 1, 1) := by decide +kernel
theorem dX11_log_48 : decode cX11_log 48 = .ok (.iload_n 2, 1) := by decide +kernel
theorem dX11_log_49 : decode cX11_log 49 = .ok (.invokevirtual 432, 3) := by decide +kernel
theorem dX11_log_52 : decode cX11_log 52 = .ok (.goto 4, 3) := by decide +kernel
theorem dX11_log_55 : decode cX11_log 55 = .ok (.iconst (-1), 1) := by decide +kernel
theorem dX11_log_56 : decode cX11_log 56 = .ok (.ireturn, 1) := by decide +kernel
def rm_X11_log : Room := { frames := 1, cells := 0, slots := 0, locals := 22 }
def k_X11_log_20 (τ : gτ) (x0 : Nat) (x1 : Int32) (x2 : Int32) (s0 : Nat) (s1 : Int32) (G : gG) : Option (Int32 × gG) :=
  gBind2 (f_X11_throwsIf s0 s1 (1 : Int32) G) fun v3 G4 =>
  if v3 = 0 then ((gr G4 11 1 x0).bind fun a5 =>
  gchk (gIn (11 : Int32) (gn τ a5)) <|
  (f_X11_in x1 (0 : Int32) ((ge G4 a5 (Int32.toNatClampNeg (11 : Int32))) - (1 : Int32))).bind fun v6 =>
  if v6 = 0 then (some ((-1), G4))
  else ((f_X11_ofLog τ x0 x1 x2 G4).bind fun v7 =>
  some (v7, G4)))
  else (some (0, G4))
def f_X11_log (τ : gτ) (x0 : Nat) (x1 : Int32) (x2 : Int32) (G : gG) : Option (Int32 × gG) :=
  gLet (gsi G 11 0 x0 (0 : Int32)) fun G1 =>
  (f_X11_in x2 (0 : Int32) (4 : Int32)).bind fun v2 =>
  if v2 = 0 then (k_X11_log_20 τ x0 x1 x2 x0 (1 : Int32) G1)
  else (k_X11_log_20 τ x0 x1 x2 x0 (0 : Int32) G1)
set_option maxHeartbeats 4000000 in
set_option maxRecDepth 100000 in
theorem w_X11_log_20 {X : gX} {τ : gτ} {p : Program} {l : Launch} {e : Env} {s : State} {m : MethodId} {args : Array Value} {below : List Frame} {meth : Method} {c : Code} (fx : gFx X p s m args meth c cX11_log 3 RX11) (x0 : Nat) (x1 : Int32) (x2 : Int32) (s0 : Nat) (s1 : Int32) (h0 : gK τ x0 11) (hs0 : gK τ s0 11) (hr : meth.sig.returnType = (some .int)) {r : Int32} {G' : gG} {G : gG} {H : Heap} {locs : List Loc} {ls : Array Slot} (hw : gHw X τ G H locs) (hl : lv_has ls 3 [(0, .ref x0), (1, .int x1), (2, .int x2)]) (hok : gOk (k_X11_log_20 τ x0 x1 x2 s0 s1 G) (fun q => q = (r, G')))  : W p l e rm_X11_log s m args below meth c H locs 0 0 (MQ below (gQ X τ (some (.int r)) G') args s 0 0 (gFree X)) (F0 m 20 ls [.int s1, .ref s0]) := by
  unfold k_X11_log_20 at hok
  refine lv_iconst (v := 1) fx.1 fx.2.1 dX11_log_20 (by decide) ?_
  obtain ⟨v3, G4, hf, hok⟩ := gOk_bind2 hok
  refine g_callV0 (κ := 11) fx hw (c_X11_throwsIf l X τ s0 s1 (1 : Int32) G hs0 hf) lv_RX11_263 ⟨rfl, rfl⟩ rfl rfl hs0 rfl hl.1 rfl ⟨Nat.le_of_ble_eq_true rfl, Nat.le_of_ble_eq_true rfl⟩ (Nat.le_of_ble_eq_true rfl) ⟨Nat.le_of_ble_eq_true rfl, Nat.le_of_ble_eq_true rfl⟩ dX11_log_21 (fun H locs hw => ?_)
  refine g_if_eq (tgt := 29) fx dX11_log_24 (by decide) hok (fun hok => ?_) (fun hok => ?_)
  · refine lv_iload_n fx.1 fx.2.1 dX11_log_29 rfl (lv_at hl 1 rfl) ?_
    refine lv_iconst (v := 0) fx.1 fx.2.1 dX11_log_30 (by decide) ?_
    refine lv_aload_n fx.1 fx.2.1 dX11_log_31 rfl (lv_at hl 0 rfl) ?_
    refine g_getr fx hw h0 lf_RX11_13 rfl dX11_log_32 hok (fun a5 h_a5 hok => ?_)
    refine lv_bipush (v := 11) fx.1 fx.2.1 dX11_log_35 (by decide) ?_
    refine g_iald fx hw h_a5 dX11_log_37 hok (fun hok => ?_)
    refine lv_iconst (v := 1) fx.1 fx.2.1 dX11_log_38 (by decide) ?_
    refine lv_isub fx.1 fx.2.1 dX11_log_39 ?_
    obtain ⟨v6, hf, hok⟩ := gOk_bind hok
    refine g_callS0 fx hw (c_X11_in l X τ x1 (0 : Int32) ((ge G4 a5 (Int32.toNatClampNeg (11 : Int32))) - (1 : Int32)) G4  hf) ls_RX11_69 ⟨rfl, rfl⟩ rfl hl.1 rfl ⟨Nat.le_of_ble_eq_true rfl, Nat.le_of_ble_eq_true rfl⟩ (Nat.le_of_ble_eq_true rfl) ⟨Nat.le_of_ble_eq_true rfl, Nat.le_of_ble_eq_true rfl⟩ dX11_log_40 (fun H locs hw => ?_)
    refine g_if_eq (tgt := 55) fx dX11_log_43 (by decide) hok (fun hok => ?_) (fun hok => ?_)
    · refine lv_iconst (v := (-1)) fx.1 fx.2.1 dX11_log_55 (by decide) ?_
      cases gOk_some hok
      exact g_iret fx hw hr dX11_log_56
    · refine lv_aload_n fx.1 fx.2.1 dX11_log_46 rfl (lv_at hl 0 rfl) ?_
      refine lv_iload_n fx.1 fx.2.1 dX11_log_47 rfl (lv_at hl 1 rfl) ?_
      refine lv_iload_n fx.1 fx.2.1 dX11_log_48 rfl (lv_at hl 2 rfl) ?_
      obtain ⟨v7, hf, hok⟩ := gOk_bind hok
      refine g_callV0 (κ := 11) fx hw (c_X11_ofLog l X τ x0 x1 x2 G4 h0 hf) lv_RX11_432 ⟨rfl, rfl⟩ rfl rfl h0 rfl hl.1 rfl ⟨Nat.le_of_ble_eq_true rfl, Nat.le_of_ble_eq_true rfl⟩ (Nat.le_of_ble_eq_true rfl) ⟨Nat.le_of_ble_eq_true rfl, Nat.le_of_ble_eq_true rfl⟩ dX11_log_49 (fun H locs hw => ?_)
      refine lv_goto (tgt := 56) fx.1 fx.2.1 dX11_log_52 (by decide) ?_
      cases gOk_some hok
      exact g_iret fx hw hr dX11_log_56
  · refine lv_iconst (v := 0) fx.1 fx.2.1 dX11_log_27 (by decide) ?_
    cases gOk_some hok
    exact g_iret fx hw hr dX11_log_28
set_option maxHeartbeats 4000000 in
set_option maxRecDepth 100000 in
theorem c_X11_log (l : Launch) (X : gX) (τ : gτ) (x0 : Nat) (x1 : Int32) (x2 : Int32) (G : gG) (h0 : gK τ x0 11) {r : Int32} {G' : gG} (h : f_X11_log τ x0 x1 x2 G = some (r, G')) : gM l X τ yX11_log cX11_log 3 (some .int) rm_X11_log [.ref x0, .int x1, .int x2] G (some (.int r)) G' := by
  refine g_body (by decide +kernel) (Nat.le_of_ble_eq_true rfl) ?_
  intro p e s m args below meth c ls fx hr hw hl
  have fx : gFx X p s m args meth c cX11_log 3 RX11 := fx
  have hl : lv_has ls 3 [(0, .ref x0), (1, .int x1), (2, .int x2)] := hl
  have hok : gOk (f_X11_log τ x0 x1 x2 G) (fun q => q = (r, G')) := ⟨_, h, rfl⟩
  unfold f_X11_log at hok
  show W p l e rm_X11_log s m args below meth c s.heap [] 0 0 (MQ below (gQ X τ (some (.int r)) G') args s 0 0 (gFree X)) _
  refine lv_aload_n fx.1 fx.2.1 dX11_log_0 rfl (lv_at hl 0 rfl) ?_
  refine lv_iconst (v := 0) fx.1 fx.2.1 dX11_log_1 (by decide) ?_
  refine g_puti fx hw h0 lp_RX11_3 rfl rfl dX11_log_2 hok (fun G1 H locs hw hok => ?_)
  refine lv_aload_n fx.1 fx.2.1 dX11_log_5 rfl (lv_at hl 0 rfl) ?_
  refine lv_iload_n fx.1 fx.2.1 dX11_log_6 rfl (lv_at hl 2 rfl) ?_
  refine lv_iconst (v := 0) fx.1 fx.2.1 dX11_log_7 (by decide) ?_
  refine lv_iconst (v := 4) fx.1 fx.2.1 dX11_log_8 (by decide) ?_
  obtain ⟨v2, hf, hok⟩ := gOk_bind hok
  refine g_callS0 fx hw (c_X11_in l X τ x2 (0 : Int32) (4 : Int32) G1  hf) ls_RX11_69 ⟨rfl, rfl⟩ rfl hl.1 rfl ⟨Nat.le_of_ble_eq_true rfl, Nat.le_of_ble_eq_true rfl⟩ (Nat.le_of_ble_eq_true rfl) ⟨Nat.le_of_ble_eq_true rfl, Nat.le_of_ble_eq_true rfl⟩ dX11_log_9 (fun H locs hw => ?_)
  refine g_if_ne (tgt := 19) fx dX11_log_12 (by decide) hok (fun hok => ?_) (fun hok => ?_)
  · refine lv_iconst (v := 1) fx.1 fx.2.1 dX11_log_15 (by decide) ?_
    refine lv_goto (tgt := 20) fx.1 fx.2.1 dX11_log_16 (by decide) ?_
    exact w_X11_log_20 fx x0 x1 x2 x0 (1 : Int32) h0 h0 hr hw (lv_sub hl [0, 1, 2] rfl) hok
  · refine lv_iconst (v := 0) fx.1 fx.2.1 dX11_log_19 (by decide) ?_
    exact w_X11_log_20 fx x0 x1 x2 x0 (0 : Int32) h0 h0 hr hw (lv_sub hl [0, 1, 2] rfl) hok
theorem dX11_seed_0 : decode cX11_seed 0 = .ok (.aload_n 0, 1) := by decide +kernel
theorem dX11_seed_1 : decode cX11_seed 1 = .ok (.iconst 0, 1) := by decide +kernel
theorem dX11_seed_2 : decode cX11_seed 2 = .ok (.putfield 3, 3) := by decide +kernel
theorem dX11_seed_5 : decode cX11_seed 5 = .ok (.aload_n 0, 1) := by decide +kernel
theorem dX11_seed_6 : decode cX11_seed 6 = .ok (.getfield 13, 3) := by decide +kernel
theorem dX11_seed_9 : decode cX11_seed 9 = .ok (.bipush 12, 2) := by decide +kernel
theorem dX11_seed_11 : decode cX11_seed 11 = .ok (.iaload, 1) := by decide +kernel
theorem dX11_seed_12 : decode cX11_seed 12 = .ok (.istore_n 2, 1) := by decide +kernel
theorem dX11_seed_13 : decode cX11_seed 13 = .ok (.aload_n 0, 1) := by decide +kernel
theorem dX11_seed_14 : decode cX11_seed 14 = .ok (.getfield 13, 3) := by decide +kernel
theorem dX11_seed_17 : decode cX11_seed 17 = .ok (.bipush 12, 2) := by decide +kernel
theorem dX11_seed_19 : decode cX11_seed 19 = .ok (.iload_n 1, 1) := by decide +kernel
theorem dX11_seed_20 : decode cX11_seed 20 = .ok (.iastore, 1) := by decide +kernel
theorem dX11_seed_21 : decode cX11_seed 21 = .ok (.iload_n 2, 1) := by decide +kernel
theorem dX11_seed_22 : decode cX11_seed 22 = .ok (.ireturn, 1) := by decide +kernel
def rm_X11_seed : Room := { frames := 0, cells := 0, slots := 0, locals := 0 }
def f_X11_seed (τ : gτ) (x0 : Nat) (x1 : Int32) (G : gG) : Option (Int32 × gG) :=
  gLet (gsi G 11 0 x0 (0 : Int32)) fun G1 =>
  (gr G1 11 1 x0).bind fun a2 =>
  gchk (gIn (12 : Int32) (gn τ a2)) <|
  gLet (ge G1 a2 (Int32.toNatClampNeg (12 : Int32))) fun v3 =>
  (gr G1 11 1 x0).bind fun a4 =>
  gchk (gIn (12 : Int32) (gn τ a4)) <| gLet (gse G1 a4 (Int32.toNatClampNeg (12 : Int32)) x1) fun G5 =>
  some (v3, G5)
set_option maxHeartbeats 4000000 in
set_option maxRecDepth 100000 in
theorem c_X11_seed (l : Launch) (X : gX) (τ : gτ) (x0 : Nat) (x1 : Int32) (G : gG) (h0 : gK τ x0 11) {r : Int32} {G' : gG} (h : f_X11_seed τ x0 x1 G = some (r, G')) : gM l X τ yX11_seed cX11_seed 3 (some .int) rm_X11_seed [.ref x0, .int x1] G (some (.int r)) G' := by
  refine g_body (by decide +kernel) (Nat.le_of_ble_eq_true rfl) ?_
  intro p e s m args below meth c ls fx hr hw hl
  have fx : gFx X p s m args meth c cX11_seed 3 RX11 := fx
  have hl : lv_has ls 3 [(0, .ref x0), (1, .int x1)] := hl
  have hok : gOk (f_X11_seed τ x0 x1 G) (fun q => q = (r, G')) := ⟨_, h, rfl⟩
  unfold f_X11_seed at hok
  show W p l e rm_X11_seed s m args below meth c s.heap [] 0 0 (MQ below (gQ X τ (some (.int r)) G') args s 0 0 (gFree X)) _
  refine lv_aload_n fx.1 fx.2.1 dX11_seed_0 rfl (lv_at hl 0 rfl) ?_
  refine lv_iconst (v := 0) fx.1 fx.2.1 dX11_seed_1 (by decide) ?_
  refine g_puti fx hw h0 lp_RX11_3 rfl rfl dX11_seed_2 hok (fun G1 H locs hw hok => ?_)
  refine lv_aload_n fx.1 fx.2.1 dX11_seed_5 rfl (lv_at hl 0 rfl) ?_
  refine g_getr fx hw h0 lf_RX11_13 rfl dX11_seed_6 hok (fun a2 h_a2 hok => ?_)
  refine lv_bipush (v := 12) fx.1 fx.2.1 dX11_seed_9 (by decide) ?_
  refine g_iald fx hw h_a2 dX11_seed_11 hok (fun hok => ?_)
  refine g_leti hok (fun v3 hok => ?_)
  refine lv_istore_n (lv' := [(2, .int v3), (0, .ref x0), (1, .int x1)]) fx.1 fx.2.1 dX11_seed_12 rfl hl (by decide) rfl (fun ls hl => ?_)
  refine lv_aload_n fx.1 fx.2.1 dX11_seed_13 rfl (lv_at hl 1 rfl) ?_
  refine g_getr fx hw h0 lf_RX11_13 rfl dX11_seed_14 hok (fun a4 h_a4 hok => ?_)
  refine lv_bipush (v := 12) fx.1 fx.2.1 dX11_seed_17 (by decide) ?_
  refine lv_iload_n fx.1 fx.2.1 dX11_seed_19 rfl (lv_at hl 2 rfl) ?_
  refine g_iast fx hw h_a4 dX11_seed_20 hok (fun G5 H locs hw hok => ?_)
  refine lv_iload_n fx.1 fx.2.1 dX11_seed_21 rfl (lv_at hl 0 rfl) ?_
  cases gOk_some hok
  exact g_iret fx hw hr dX11_seed_22
theorem dX11_count_0 : decode cX11_count 0 = .ok (.aload_n 0, 1) := by decide +kernel
theorem dX11_count_1 : decode cX11_count 1 = .ok (.iconst 0, 1) := by decide +kernel
theorem dX11_count_2 : decode cX11_count 2 = .ok (.putfield 3, 3) := by decide +kernel
theorem dX11_count_5 : decode cX11_count 5 = .ok (.iload_n 1, 1) := by decide +kernel
theorem dX11_count_6 : decode cX11_count 6 = .ok (.tableswitch 128 4 14 #[58, 128, 128, 128, 81, 86, 94, 102, 110, 115, 123], 58) := by decide +kernel
theorem dX11_count_64 : decode cX11_count 64 = .ok (.aload_n 0, 1) := by decide +kernel
theorem dX11_count_65 : decode cX11_count 65 = .ok (.getfield 13, 3) := by decide +kernel
theorem dX11_count_68 : decode cX11_count 68 = .ok (.iconst 4, 1) := by decide +kernel
theorem dX11_count_69 : decode cX11_count 69 = .ok (.iaload, 1) := by decide +kernel
theorem dX11_count_70 : decode cX11_count 70 = .ok (.iconst 1, 1) := by decide +kernel
theorem dX11_count_71 : decode cX11_count 71 = .ok (.if_icmp .ne 14, 3) := by decide +kernel
theorem dX11_count_74 : decode cX11_count 74 = .ok (.aload_n 0, 1) := by decide +kernel
theorem dX11_count_75 : decode cX11_count 75 = .ok (.getfield 13, 3) := by decide +kernel
theorem dX11_count_78 : decode cX11_count 78 = .ok (.sipush 467, 3) := by decide +kernel
theorem dX11_count_81 : decode cX11_count 81 = .ok (.iaload, 1) := by decide +kernel
theorem dX11_count_82 : decode cX11_count 82 = .ok (.goto 4, 3) := by decide +kernel
theorem dX11_count_85 : decode cX11_count 85 = .ok (.iconst (-1), 1) := by decide +kernel
theorem dX11_count_86 : decode cX11_count 86 = .ok (.ireturn, 1) := by decide +kernel
theorem dX11_count_87 : decode cX11_count 87 = .ok (.aload_n 0, 1) := by decide +kernel
theorem dX11_count_88 : decode cX11_count 88 = .ok (.invokevirtual 420, 3) := by decide +kernel
theorem dX11_count_91 : decode cX11_count 91 = .ok (.ireturn, 1) := by decide +kernel
theorem dX11_count_92 : decode cX11_count 92 = .ok (.aload_n 0, 1) := by decide +kernel
theorem dX11_count_93 : decode cX11_count 93 = .ok (.getfield 13, 3) := by decide +kernel
theorem dX11_count_96 : decode cX11_count 96 = .ok (.bipush 8, 2) := by decide +kernel
theorem dX11_count_98 : decode cX11_count 98 = .ok (.iaload, 1) := by decide +kernel
theorem dX11_count_99 : decode cX11_count 99 = .ok (.ireturn, 1) := by decide +kernel
theorem dX11_count_100 : decode cX11_count 100 = .ok (.aload_n 0, 1) := by decide +kernel
theorem dX11_count_101 : decode cX11_count 101 = .ok (.getfield 13, 3) := by decide +kernel
theorem dX11_count_104 : decode cX11_count 104 = .ok (.bipush 9, 2) := by decide +kernel
theorem dX11_count_106 : decode cX11_count 106 = .ok (.iaload, 1) := by decide +kernel
theorem dX11_count_107 : decode cX11_count 107 = .ok (.ireturn, 1) := by decide +kernel
theorem dX11_count_108 : decode cX11_count 108 = .ok (.aload_n 0, 1) := by decide +kernel
theorem dX11_count_109 : decode cX11_count 109 = .ok (.getfield 13, 3) := by decide +kernel
theorem dX11_count_112 : decode cX11_count 112 = .ok (.bipush 10, 2) := by decide +kernel
theorem dX11_count_114 : decode cX11_count 114 = .ok (.iaload, 1) := by decide +kernel
theorem dX11_count_115 : decode cX11_count 115 = .ok (.ireturn, 1) := by decide +kernel
theorem dX11_count_116 : decode cX11_count 116 = .ok (.aload_n 0, 1) := by decide +kernel
theorem dX11_count_117 : decode cX11_count 117 = .ok (.invokevirtual 429, 3) := by decide +kernel
theorem dX11_count_120 : decode cX11_count 120 = .ok (.ireturn, 1) := by decide +kernel
theorem dX11_count_121 : decode cX11_count 121 = .ok (.aload_n 0, 1) := by decide +kernel
theorem dX11_count_122 : decode cX11_count 122 = .ok (.getfield 13, 3) := by decide +kernel
theorem dX11_count_125 : decode cX11_count 125 = .ok (.bipush 11, 2) := by decide +kernel
theorem dX11_count_127 : decode cX11_count 127 = .ok (.iaload, 1) := by decide +kernel
theorem dX11_count_128 : decode cX11_count 128 = .ok (.ireturn, 1) := by decide +kernel
theorem dX11_count_129 : decode cX11_count 129 = .ok (.aload_n 0, 1) := by decide +kernel
theorem dX11_count_130 : decode cX11_count 130 = .ok (.getfield 52, 3) := by decide +kernel
theorem dX11_count_133 : decode cX11_count 133 = .ok (.ireturn, 1) := by decide +kernel
theorem dX11_count_134 : decode cX11_count 134 = .ok (.iload_n 1, 1) := by decide +kernel
theorem dX11_count_135 : decode cX11_count 135 = .ok (.iconst 0, 1) := by decide +kernel
theorem dX11_count_136 : decode cX11_count 136 = .ok (.bipush 7, 2) := by decide +kernel
theorem dX11_count_138 : decode cX11_count 138 = .ok (.invokestatic 69, 3) := by decide +kernel
theorem dX11_count_141 : decode cX11_count 141 = .ok (.ifCond .eq 12, 3) := by decide +kernel
theorem dX11_count_144 : decode cX11_count 144 = .ok (.aload_n 0, 1) := by decide +kernel
theorem dX11_count_145 : decode cX11_count 145 = .ok (.getfield 13, 3) := by decide +kernel
theorem dX11_count_148 : decode cX11_count 148 = .ok (.iload_n 1, 1) := by decide +kernel
theorem dX11_count_149 : decode cX11_count 149 = .ok (.iaload, 1) := by decide +kernel
theorem dX11_count_150 : decode cX11_count 150 = .ok (.goto 4, 3) := by decide +kernel
theorem dX11_count_153 : decode cX11_count 153 = .ok (.iconst (-1), 1) := by decide +kernel
theorem dX11_count_154 : decode cX11_count 154 = .ok (.ireturn, 1) := by decide +kernel
def rm_X11_count : Room := { frames := 5, cells := 0, slots := 0, locals := 106 }
def f_X11_count (τ : gτ) (n : Nat) (x0 : Nat) (x1 : Int32) (G : gG) : Option (Int32 × gG) :=
  gLet (gsi G 11 0 x0 (0 : Int32)) fun G1 =>
  if x1 = 4 then ((gr G1 11 1 x0).bind fun a2 =>
  gchk (gIn (4 : Int32) (gn τ a2)) <|
  if (ge G1 a2 (Int32.toNatClampNeg (4 : Int32))) = (1 : Int32) then ((gr G1 11 1 x0).bind fun a3 =>
  gchk (gIn (467 : Int32) (gn τ a3)) <|
  some (ge G1 a3 (Int32.toNatClampNeg (467 : Int32)), G1))
  else (some ((-1), G1)))
  else if x1 = 5 then ((f_X11_in x1 (0 : Int32) (7 : Int32)).bind fun v4 =>
  if v4 = 0 then (some ((-1), G1))
  else ((gr G1 11 1 x0).bind fun a5 =>
  gchk (gIn x1 (gn τ a5)) <|
  some (ge G1 a5 (Int32.toNatClampNeg x1), G1)))
  else if x1 = 6 then ((f_X11_in x1 (0 : Int32) (7 : Int32)).bind fun v6 =>
  if v6 = 0 then (some ((-1), G1))
  else ((gr G1 11 1 x0).bind fun a7 =>
  gchk (gIn x1 (gn τ a7)) <|
  some (ge G1 a7 (Int32.toNatClampNeg x1), G1)))
  else if x1 = 7 then ((f_X11_in x1 (0 : Int32) (7 : Int32)).bind fun v8 =>
  if v8 = 0 then (some ((-1), G1))
  else ((gr G1 11 1 x0).bind fun a9 =>
  gchk (gIn x1 (gn τ a9)) <|
  some (ge G1 a9 (Int32.toNatClampNeg x1), G1)))
  else if x1 = 8 then ((f_X11_allLoads τ n x0 G1).bind fun v10 =>
  some (v10, G1))
  else if x1 = 9 then ((gr G1 11 1 x0).bind fun a11 =>
  gchk (gIn (8 : Int32) (gn τ a11)) <|
  some (ge G1 a11 (Int32.toNatClampNeg (8 : Int32)), G1))
  else if x1 = 10 then ((gr G1 11 1 x0).bind fun a12 =>
  gchk (gIn (9 : Int32) (gn τ a12)) <|
  some (ge G1 a12 (Int32.toNatClampNeg (9 : Int32)), G1))
  else if x1 = 11 then ((gr G1 11 1 x0).bind fun a13 =>
  gchk (gIn (10 : Int32) (gn τ a13)) <|
  some (ge G1 a13 (Int32.toNatClampNeg (10 : Int32)), G1))
  else if x1 = 12 then ((f_X11_brokenOnes τ n x0 G1).bind fun v14 =>
  some (v14, G1))
  else if x1 = 13 then ((gr G1 11 1 x0).bind fun a15 =>
  gchk (gIn (11 : Int32) (gn τ a15)) <|
  some (ge G1 a15 (Int32.toNatClampNeg (11 : Int32)), G1))
  else if x1 = 14 then (some (gi G1 11 7 x0, G1))
  else ((f_X11_in x1 (0 : Int32) (7 : Int32)).bind fun v16 =>
  if v16 = 0 then (some ((-1), G1))
  else ((gr G1 11 1 x0).bind fun a17 =>
  gchk (gIn x1 (gn τ a17)) <|
  some (ge G1 a17 (Int32.toNatClampNeg x1), G1)))
set_option maxHeartbeats 4000000 in
set_option maxRecDepth 100000 in
theorem c_X11_count (l : Launch) (X : gX) (τ : gτ) (n : Nat) (x0 : Nat) (x1 : Int32) (G : gG) (h0 : gK τ x0 11) {r : Int32} {G' : gG} (h : f_X11_count τ n x0 x1 G = some (r, G')) : gM l X τ yX11_count cX11_count 2 (some .int) rm_X11_count [.ref x0, .int x1] G (some (.int r)) G' := by
  refine g_body (by decide +kernel) (Nat.le_of_ble_eq_true rfl) ?_
  intro p e s m args below meth c ls fx hr hw hl
  have fx : gFx X p s m args meth c cX11_count 2 RX11 := fx
  have hl : lv_has ls 2 [(0, .ref x0), (1, .int x1)] := hl
  have hok : gOk (f_X11_count τ n x0 x1 G) (fun q => q = (r, G')) := ⟨_, h, rfl⟩
  unfold f_X11_count at hok
  show W p l e rm_X11_count s m args below meth c s.heap [] 0 0 (MQ below (gQ X τ (some (.int r)) G') args s 0 0 (gFree X)) _
  refine lv_aload_n fx.1 fx.2.1 dX11_count_0 rfl (lv_at hl 0 rfl) ?_
  refine lv_iconst (v := 0) fx.1 fx.2.1 dX11_count_1 (by decide) ?_
  refine g_puti fx hw h0 lp_RX11_3 rfl rfl dX11_count_2 hok (fun G1 H locs hw hok => ?_)
  refine lv_iload_n fx.1 fx.2.1 dX11_count_5 rfl (lv_at hl 1 rfl) ?_
  by_cases hc0 : x1 = 4
  · have hok := gOk_t hok hc0
    refine lv_tableIn (tgt := 64) fx.1 fx.2.1 dX11_count_6 (by rw [hc0]; decide) (by rw [hc0]; decide) (by rw [hc0]; rfl) (by decide) ?_
    refine lv_aload_n fx.1 fx.2.1 dX11_count_64 rfl (lv_at hl 0 rfl) ?_
    refine g_getr fx hw h0 lf_RX11_13 rfl dX11_count_65 hok (fun a2 h_a2 hok => ?_)
    refine lv_iconst (v := 4) fx.1 fx.2.1 dX11_count_68 (by decide) ?_
    refine g_iald fx hw h_a2 dX11_count_69 hok (fun hok => ?_)
    refine lv_iconst (v := 1) fx.1 fx.2.1 dX11_count_70 (by decide) ?_
    refine g_icmp_ne (tgt := 85) fx dX11_count_71 (by decide) hok (fun hok => ?_) (fun hok => ?_)
    · refine lv_aload_n fx.1 fx.2.1 dX11_count_74 rfl (lv_at hl 0 rfl) ?_
      refine g_getr fx hw h0 lf_RX11_13 rfl dX11_count_75 hok (fun a3 h_a3 hok => ?_)
      refine lv_sipush (v := 467) fx.1 fx.2.1 dX11_count_78 (by decide) ?_
      refine g_iald fx hw h_a3 dX11_count_81 hok (fun hok => ?_)
      refine lv_goto (tgt := 86) fx.1 fx.2.1 dX11_count_82 (by decide) ?_
      cases gOk_some hok
      exact g_iret fx hw hr dX11_count_86
    · refine lv_iconst (v := (-1)) fx.1 fx.2.1 dX11_count_85 (by decide) ?_
      cases gOk_some hok
      exact g_iret fx hw hr dX11_count_86
  have hok := gOk_f hok hc0
  by_cases hc1 : x1 = 5
  · have hok := gOk_t hok hc1
    refine lv_tableIn (tgt := 134) fx.1 fx.2.1 dX11_count_6 (by rw [hc1]; decide) (by rw [hc1]; decide) (by rw [hc1]; rfl) (by decide) ?_
    refine lv_iload_n fx.1 fx.2.1 dX11_count_134 rfl (lv_at hl 1 rfl) ?_
    refine lv_iconst (v := 0) fx.1 fx.2.1 dX11_count_135 (by decide) ?_
    refine lv_bipush (v := 7) fx.1 fx.2.1 dX11_count_136 (by decide) ?_
    obtain ⟨v4, hf, hok⟩ := gOk_bind hok
    refine g_callS0 fx hw (c_X11_in l X τ x1 (0 : Int32) (7 : Int32) G1  hf) ls_RX11_69 ⟨rfl, rfl⟩ rfl hl.1 rfl ⟨Nat.le_of_ble_eq_true rfl, Nat.le_of_ble_eq_true rfl⟩ (Nat.le_of_ble_eq_true rfl) ⟨Nat.le_of_ble_eq_true rfl, Nat.le_of_ble_eq_true rfl⟩ dX11_count_138 (fun H locs hw => ?_)
    refine g_if_eq (tgt := 153) fx dX11_count_141 (by decide) hok (fun hok => ?_) (fun hok => ?_)
    · refine lv_iconst (v := (-1)) fx.1 fx.2.1 dX11_count_153 (by decide) ?_
      cases gOk_some hok
      exact g_iret fx hw hr dX11_count_154
    · refine lv_aload_n fx.1 fx.2.1 dX11_count_144 rfl (lv_at hl 0 rfl) ?_
      refine g_getr fx hw h0 lf_RX11_13 rfl dX11_count_145 hok (fun a5 h_a5 hok => ?_)
      refine lv_iload_n fx.1 fx.2.1 dX11_count_148 rfl (lv_at hl 1 rfl) ?_
      refine g_iald fx hw h_a5 dX11_count_149 hok (fun hok => ?_)
      refine lv_goto (tgt := 154) fx.1 fx.2.1 dX11_count_150 (by decide) ?_
      cases gOk_some hok
      exact g_iret fx hw hr dX11_count_154
  have hok := gOk_f hok hc1
  by_cases hc2 : x1 = 6
  · have hok := gOk_t hok hc2
    refine lv_tableIn (tgt := 134) fx.1 fx.2.1 dX11_count_6 (by rw [hc2]; decide) (by rw [hc2]; decide) (by rw [hc2]; rfl) (by decide) ?_
    refine lv_iload_n fx.1 fx.2.1 dX11_count_134 rfl (lv_at hl 1 rfl) ?_
    refine lv_iconst (v := 0) fx.1 fx.2.1 dX11_count_135 (by decide) ?_
    refine lv_bipush (v := 7) fx.1 fx.2.1 dX11_count_136 (by decide) ?_
    obtain ⟨v6, hf, hok⟩ := gOk_bind hok
    refine g_callS0 fx hw (c_X11_in l X τ x1 (0 : Int32) (7 : Int32) G1  hf) ls_RX11_69 ⟨rfl, rfl⟩ rfl hl.1 rfl ⟨Nat.le_of_ble_eq_true rfl, Nat.le_of_ble_eq_true rfl⟩ (Nat.le_of_ble_eq_true rfl) ⟨Nat.le_of_ble_eq_true rfl, Nat.le_of_ble_eq_true rfl⟩ dX11_count_138 (fun H locs hw => ?_)
    refine g_if_eq (tgt := 153) fx dX11_count_141 (by decide) hok (fun hok => ?_) (fun hok => ?_)
    · refine lv_iconst (v := (-1)) fx.1 fx.2.1 dX11_count_153 (by decide) ?_
      cases gOk_some hok
      exact g_iret fx hw hr dX11_count_154
    · refine lv_aload_n fx.1 fx.2.1 dX11_count_144 rfl (lv_at hl 0 rfl) ?_
      refine g_getr fx hw h0 lf_RX11_13 rfl dX11_count_145 hok (fun a7 h_a7 hok => ?_)
      refine lv_iload_n fx.1 fx.2.1 dX11_count_148 rfl (lv_at hl 1 rfl) ?_
      refine g_iald fx hw h_a7 dX11_count_149 hok (fun hok => ?_)
      refine lv_goto (tgt := 154) fx.1 fx.2.1 dX11_count_150 (by decide) ?_
      cases gOk_some hok
      exact g_iret fx hw hr dX11_count_154
  have hok := gOk_f hok hc2
  by_cases hc3 : x1 = 7
  · have hok := gOk_t hok hc3
    refine lv_tableIn (tgt := 134) fx.1 fx.2.1 dX11_count_6 (by rw [hc3]; decide) (by rw [hc3]; decide) (by rw [hc3]; rfl) (by decide) ?_
    refine lv_iload_n fx.1 fx.2.1 dX11_count_134 rfl (lv_at hl 1 rfl) ?_
    refine lv_iconst (v := 0) fx.1 fx.2.1 dX11_count_135 (by decide) ?_
    refine lv_bipush (v := 7) fx.1 fx.2.1 dX11_count_136 (by decide) ?_
    obtain ⟨v8, hf, hok⟩ := gOk_bind hok
    refine g_callS0 fx hw (c_X11_in l X τ x1 (0 : Int32) (7 : Int32) G1  hf) ls_RX11_69 ⟨rfl, rfl⟩ rfl hl.1 rfl ⟨Nat.le_of_ble_eq_true rfl, Nat.le_of_ble_eq_true rfl⟩ (Nat.le_of_ble_eq_true rfl) ⟨Nat.le_of_ble_eq_true rfl, Nat.le_of_ble_eq_true rfl⟩ dX11_count_138 (fun H locs hw => ?_)
    refine g_if_eq (tgt := 153) fx dX11_count_141 (by decide) hok (fun hok => ?_) (fun hok => ?_)
    · refine lv_iconst (v := (-1)) fx.1 fx.2.1 dX11_count_153 (by decide) ?_
      cases gOk_some hok
      exact g_iret fx hw hr dX11_count_154
    · refine lv_aload_n fx.1 fx.2.1 dX11_count_144 rfl (lv_at hl 0 rfl) ?_
      refine g_getr fx hw h0 lf_RX11_13 rfl dX11_count_145 hok (fun a9 h_a9 hok => ?_)
      refine lv_iload_n fx.1 fx.2.1 dX11_count_148 rfl (lv_at hl 1 rfl) ?_
      refine g_iald fx hw h_a9 dX11_count_149 hok (fun hok => ?_)
      refine lv_goto (tgt := 154) fx.1 fx.2.1 dX11_count_150 (by decide) ?_
      cases gOk_some hok
      exact g_iret fx hw hr dX11_count_154
  have hok := gOk_f hok hc3
  by_cases hc4 : x1 = 8
  · have hok := gOk_t hok hc4
    refine lv_tableIn (tgt := 87) fx.1 fx.2.1 dX11_count_6 (by rw [hc4]; decide) (by rw [hc4]; decide) (by rw [hc4]; rfl) (by decide) ?_
    refine lv_aload_n fx.1 fx.2.1 dX11_count_87 rfl (lv_at hl 0 rfl) ?_
    obtain ⟨v10, hf, hok⟩ := gOk_bind hok
    refine g_callV0 (κ := 11) fx hw (c_X11_allLoads l X τ n x0 G1 h0 hf) lv_RX11_420 ⟨rfl, rfl⟩ rfl rfl h0 rfl hl.1 rfl ⟨Nat.le_of_ble_eq_true rfl, Nat.le_of_ble_eq_true rfl⟩ (Nat.le_of_ble_eq_true rfl) ⟨Nat.le_of_ble_eq_true rfl, Nat.le_of_ble_eq_true rfl⟩ dX11_count_88 (fun H locs hw => ?_)
    cases gOk_some hok
    exact g_iret fx hw hr dX11_count_91
  have hok := gOk_f hok hc4
  by_cases hc5 : x1 = 9
  · have hok := gOk_t hok hc5
    refine lv_tableIn (tgt := 92) fx.1 fx.2.1 dX11_count_6 (by rw [hc5]; decide) (by rw [hc5]; decide) (by rw [hc5]; rfl) (by decide) ?_
    refine lv_aload_n fx.1 fx.2.1 dX11_count_92 rfl (lv_at hl 0 rfl) ?_
    refine g_getr fx hw h0 lf_RX11_13 rfl dX11_count_93 hok (fun a11 h_a11 hok => ?_)
    refine lv_bipush (v := 8) fx.1 fx.2.1 dX11_count_96 (by decide) ?_
    refine g_iald fx hw h_a11 dX11_count_98 hok (fun hok => ?_)
    cases gOk_some hok
    exact g_iret fx hw hr dX11_count_99
  have hok := gOk_f hok hc5
  by_cases hc6 : x1 = 10
  · have hok := gOk_t hok hc6
    refine lv_tableIn (tgt := 100) fx.1 fx.2.1 dX11_count_6 (by rw [hc6]; decide) (by rw [hc6]; decide) (by rw [hc6]; rfl) (by decide) ?_
    refine lv_aload_n fx.1 fx.2.1 dX11_count_100 rfl (lv_at hl 0 rfl) ?_
    refine g_getr fx hw h0 lf_RX11_13 rfl dX11_count_101 hok (fun a12 h_a12 hok => ?_)
    refine lv_bipush (v := 9) fx.1 fx.2.1 dX11_count_104 (by decide) ?_
    refine g_iald fx hw h_a12 dX11_count_106 hok (fun hok => ?_)
    cases gOk_some hok
    exact g_iret fx hw hr dX11_count_107
  have hok := gOk_f hok hc6
  by_cases hc7 : x1 = 11
  · have hok := gOk_t hok hc7
    refine lv_tableIn (tgt := 108) fx.1 fx.2.1 dX11_count_6 (by rw [hc7]; decide) (by rw [hc7]; decide) (by rw [hc7]; rfl) (by decide) ?_
    refine lv_aload_n fx.1 fx.2.1 dX11_count_108 rfl (lv_at hl 0 rfl) ?_
    refine g_getr fx hw h0 lf_RX11_13 rfl dX11_count_109 hok (fun a13 h_a13 hok => ?_)
    refine lv_bipush (v := 10) fx.1 fx.2.1 dX11_count_112 (by decide) ?_
    refine g_iald fx hw h_a13 dX11_count_114 hok (fun hok => ?_)
    cases gOk_some hok
    exact g_iret fx hw hr dX11_count_115
  have hok := gOk_f hok hc7
  by_cases hc8 : x1 = 12
  · have hok := gOk_t hok hc8
    refine lv_tableIn (tgt := 116) fx.1 fx.2.1 dX11_count_6 (by rw [hc8]; decide) (by rw [hc8]; decide) (by rw [hc8]; rfl) (by decide) ?_
    refine lv_aload_n fx.1 fx.2.1 dX11_count_116 rfl (lv_at hl 0 rfl) ?_
    obtain ⟨v14, hf, hok⟩ := gOk_bind hok
    refine g_callV0 (κ := 11) fx hw (c_X11_brokenOnes l X τ n x0 G1 h0 hf) lv_RX11_429 ⟨rfl, rfl⟩ rfl rfl h0 rfl hl.1 rfl ⟨Nat.le_of_ble_eq_true rfl, Nat.le_of_ble_eq_true rfl⟩ (Nat.le_of_ble_eq_true rfl) ⟨Nat.le_of_ble_eq_true rfl, Nat.le_of_ble_eq_true rfl⟩ dX11_count_117 (fun H locs hw => ?_)
    cases gOk_some hok
    exact g_iret fx hw hr dX11_count_120
  have hok := gOk_f hok hc8
  by_cases hc9 : x1 = 13
  · have hok := gOk_t hok hc9
    refine lv_tableIn (tgt := 121) fx.1 fx.2.1 dX11_count_6 (by rw [hc9]; decide) (by rw [hc9]; decide) (by rw [hc9]; rfl) (by decide) ?_
    refine lv_aload_n fx.1 fx.2.1 dX11_count_121 rfl (lv_at hl 0 rfl) ?_
    refine g_getr fx hw h0 lf_RX11_13 rfl dX11_count_122 hok (fun a15 h_a15 hok => ?_)
    refine lv_bipush (v := 11) fx.1 fx.2.1 dX11_count_125 (by decide) ?_
    refine g_iald fx hw h_a15 dX11_count_127 hok (fun hok => ?_)
    cases gOk_some hok
    exact g_iret fx hw hr dX11_count_128
  have hok := gOk_f hok hc9
  by_cases hc10 : x1 = 14
  · have hok := gOk_t hok hc10
    refine lv_tableIn (tgt := 129) fx.1 fx.2.1 dX11_count_6 (by rw [hc10]; decide) (by rw [hc10]; decide) (by rw [hc10]; rfl) (by decide) ?_
    refine lv_aload_n fx.1 fx.2.1 dX11_count_129 rfl (lv_at hl 0 rfl) ?_
    refine g_geti fx hw h0 lf_RX11_52 rfl dX11_count_130 ?_
    cases gOk_some hok
    exact g_iret fx hw hr dX11_count_133
  have hok := gOk_f hok hc10
  refine lv_tableOut (tgt := 134) fx.1 fx.2.1 dX11_count_6 (gOut 4 11 (by decide) (by decide) (by decide) (by decide) (fun j hj => ?_)) (by decide) ?_
  · match j, hj with
    | 0, _ => exact hc0
    | 1, _ => exact hc1
    | 2, _ => exact hc2
    | 3, _ => exact hc3
    | 4, _ => exact hc4
    | 5, _ => exact hc5
    | 6, _ => exact hc6
    | 7, _ => exact hc7
    | 8, _ => exact hc8
    | 9, _ => exact hc9
    | 10, _ => exact hc10
  · refine lv_iload_n fx.1 fx.2.1 dX11_count_134 rfl (lv_at hl 1 rfl) ?_
    refine lv_iconst (v := 0) fx.1 fx.2.1 dX11_count_135 (by decide) ?_
    refine lv_bipush (v := 7) fx.1 fx.2.1 dX11_count_136 (by decide) ?_
    obtain ⟨v16, hf, hok⟩ := gOk_bind hok
    refine g_callS0 fx hw (c_X11_in l X τ x1 (0 : Int32) (7 : Int32) G1  hf) ls_RX11_69 ⟨rfl, rfl⟩ rfl hl.1 rfl ⟨Nat.le_of_ble_eq_true rfl, Nat.le_of_ble_eq_true rfl⟩ (Nat.le_of_ble_eq_true rfl) ⟨Nat.le_of_ble_eq_true rfl, Nat.le_of_ble_eq_true rfl⟩ dX11_count_138 (fun H locs hw => ?_)
    refine g_if_eq (tgt := 153) fx dX11_count_141 (by decide) hok (fun hok => ?_) (fun hok => ?_)
    · refine lv_iconst (v := (-1)) fx.1 fx.2.1 dX11_count_153 (by decide) ?_
      cases gOk_some hok
      exact g_iret fx hw hr dX11_count_154
    · refine lv_aload_n fx.1 fx.2.1 dX11_count_144 rfl (lv_at hl 0 rfl) ?_
      refine g_getr fx hw h0 lf_RX11_13 rfl dX11_count_145 hok (fun a17 h_a17 hok => ?_)
      refine lv_iload_n fx.1 fx.2.1 dX11_count_148 rfl (lv_at hl 1 rfl) ?_
      refine g_iald fx hw h_a17 dX11_count_149 hok (fun hok => ?_)
      refine lv_goto (tgt := 154) fx.1 fx.2.1 dX11_count_150 (by decide) ?_
      cases gOk_some hok
      exact g_iret fx hw hr dX11_count_154
