theorem dX6_removeRope_0 : decode cX6_removeRope 0 = .ok (.iload_n 1, 1) := by decide +kernel
theorem dX6_removeRope_1 : decode cX6_removeRope 1 = .ok (.istore_n 2, 1) := by decide +kernel
theorem dX6_removeRope_2 : decode cX6_removeRope 2 = .ok (.iload_n 2, 1) := by decide +kernel
theorem dX6_removeRope_3 : decode cX6_removeRope 3 = .ok (.ifCond .lt 36, 3) := by decide +kernel
theorem dX6_removeRope_6 : decode cX6_removeRope 6 = .ok (.iload_n 2, 1) := by decide +kernel
theorem dX6_removeRope_7 : decode cX6_removeRope 7 = .ok (.iconst 1, 1) := by decide +kernel
theorem dX6_removeRope_8 : decode cX6_removeRope 8 = .ok (.iadd, 1) := by decide +kernel
theorem dX6_removeRope_9 : decode cX6_removeRope 9 = .ok (.aload_n 0, 1) := by decide +kernel
theorem dX6_removeRope_10 : decode cX6_removeRope 10 = .ok (.getfield 50, 3) := by decide +kernel
theorem dX6_removeRope_13 : decode cX6_removeRope 13 = .ok (.if_icmp .ge 26, 3) := by decide +kernel
theorem dX6_removeRope_16 : decode cX6_removeRope 16 = .ok (.aload_n 0, 1) := by decide +kernel
theorem dX6_removeRope_17 : decode cX6_removeRope 17 = .ok (.getfield 19, 3) := by decide +kernel
theorem dX6_removeRope_20 : decode cX6_removeRope 20 = .ok (.iload_n 2, 1) := by decide +kernel
theorem dX6_removeRope_21 : decode cX6_removeRope 21 = .ok (.aaload, 1) := by decide +kernel
theorem dX6_removeRope_22 : decode cX6_removeRope 22 = .ok (.aload_n 0, 1) := by decide +kernel
theorem dX6_removeRope_23 : decode cX6_removeRope 23 = .ok (.getfield 19, 3) := by decide +kernel
theorem dX6_removeRope_26 : decode cX6_removeRope 26 = .ok (.iload_n 2, 1) := by decide +kernel
theorem dX6_removeRope_27 : decode cX6_removeRope 27 = .ok (.iconst 1, 1) := by decide +kernel
theorem dX6_removeRope_28 : decode cX6_removeRope 28 = .ok (.iadd, 1) := by decide +kernel
theorem dX6_removeRope_29 : decode cX6_removeRope 29 = .ok (.aaload, 1) := by decide +kernel
theorem dX6_removeRope_30 : decode cX6_removeRope 30 = .ok (.invokevirtual 53, 3) := by decide +kernel
theorem dX6_removeRope_33 : decode cX6_removeRope 33 = .ok (.iinc 2 1, 3) := by decide +kernel
theorem dX6_removeRope_36 : decode cX6_removeRope 36 = .ok (.goto (-34), 3) := by decide +kernel
theorem dX6_removeRope_39 : decode cX6_removeRope 39 = .ok (.aload_n 0, 1) := by decide +kernel
theorem dX6_removeRope_40 : decode cX6_removeRope 40 = .ok (.dup, 1) := by decide +kernel
theorem dX6_removeRope_41 : decode cX6_removeRope 41 = .ok (.getfield 50, 3) := by decide +kernel
theorem dX6_removeRope_44 : decode cX6_removeRope 44 = .ok (.iconst 1, 1) := by decide +kernel
theorem dX6_removeRope_45 : decode cX6_removeRope 45 = .ok (.isub, 1) := by decide +kernel
theorem dX6_removeRope_46 : decode cX6_removeRope 46 = .ok (.putfield 50, 3) := by decide +kernel
theorem dX6_removeRope_49 : decode cX6_removeRope 49 = .ok (.return_, 1) := by decide +kernel
def rm_X6_removeRope : Room := { frames := 1, cells := 0, slots := 0, locals := 21 }
def b_X6_removeRope_2 (τ : gτ) (n : Nat) (x0 : Nat) (x2 : Int32) (G : gG) : Option ((Int32 × gG) ⊕ ((gG))) :=
  if x2 < 0 then (some (.inr G))
  else (if (gi G 6 5 x0) ≤ (x2 + (1 : Int32)) then (some (.inr G))
  else ((gr G 6 1 x0).bind fun a1 =>
  gchk (gIn x2 (gn τ a1)) <| (gq G a1 (Int32.toNatClampNeg x2)).bind fun a2 =>
  (gr G 6 1 x0).bind fun a3 =>
  gchk (gIn (x2 + (1 : Int32)) (gn τ a3)) <| (gq G a3 (Int32.toNatClampNeg (x2 + (1 : Int32)))).bind fun a4 =>
  (f_X5_become a2 a4 G).bind fun G5 =>
  gLet (x2 + 1) fun v6 =>
  some (.inl (v6, G5))))
def l_X6_removeRope_2 (τ : gτ) (n : Nat) (x0 : Nat) (x2 : Int32) (G : gG) : Option ((gG)) :=
  gIter (fun (q : Int32 × gG) => b_X6_removeRope_2 τ n x0 q.1 q.2) n (x2, G)
def k_X6_removeRope_39 (τ : gτ) (n : Nat) (x0 : Nat)  (G : gG) : Option (gG) :=
  gLet (gsi G 6 5 x0 ((gi G 6 5 x0) - (1 : Int32))) fun G8 =>
  some G8
def f_X6_removeRope (τ : gτ) (n : Nat) (x0 : Nat) (x1 : Int32) (G : gG) : Option (gG) :=
  (l_X6_removeRope_2 τ n x0 x1 G).bind fun q => gLet q fun G7 => 
  k_X6_removeRope_39 τ n x0  G7
set_option maxHeartbeats 4000000 in
set_option maxRecDepth 100000 in
theorem w_b_X6_removeRope_2 {X : gX} {τ : gτ} {p : Program} {l : Launch} {e : Env} {s : State} {m : MethodId} {args : Array Value} {below : List Frame} {meth : Method} {c : Code} (fx : gFx X p s m args meth c cX6_removeRope 3 RX6) (n : Nat) (x0 : Nat) (x2 : Int32) (h0 : gK τ x0 6) {Q : State → Prop} {K : ((Int32 × gG) ⊕ ((gG))) → Prop} {G : gG} {H : Heap} {locs : List Loc} {ls : Array Slot} (hw : gHw X τ G H locs) (hl : lv_has ls 3 [(0, .ref x0), (2, .int x2)]) (hok : gOk (b_X6_removeRope_2 τ n x0 x2 G) K) (hc : ∀ (y2 : Int32) (G : gG) (H : Heap) (locs : List Loc) (ls : Array Slot), gHw X τ G H locs → lv_has ls 3 [(0, .ref x0), (2, .int y2)] → K (.inl (y2, G)) → W p l e rm_X6_removeRope s m args below meth c H locs 0 0 Q (F0 m 2 ls [])) (hx0 : ∀ (G : gG) (H : Heap) (locs : List Loc) (ls : Array Slot), gHw X τ G H locs → lv_has ls 3 [(0, .ref x0)] → K (.inr G) → W p l e rm_X6_removeRope s m args below meth c H locs 0 0 Q (F0 m 39 ls [])) : W p l e rm_X6_removeRope s m args below meth c H locs 0 0 Q (F0 m 2 ls []) := by
  unfold b_X6_removeRope_2 at hok
  refine lv_iload_n fx.1 fx.2.1 dX6_removeRope_2 rfl (lv_at hl 1 rfl) ?_
  refine g_if_lt (tgt := 39) fx dX6_removeRope_3 (by decide) hok (fun hok => ?_) (fun hok => ?_)
  · exact hx0  G _ _ _  hw (lv_sub hl [0] rfl) (gOk_some hok)
  · refine lv_iload_n fx.1 fx.2.1 dX6_removeRope_6 rfl (lv_at hl 1 rfl) ?_
    refine lv_iconst (v := 1) fx.1 fx.2.1 dX6_removeRope_7 (by decide) ?_
    refine lv_iadd fx.1 fx.2.1 dX6_removeRope_8 ?_
    refine lv_aload_n fx.1 fx.2.1 dX6_removeRope_9 rfl (lv_at hl 0 rfl) ?_
    refine g_geti fx hw h0 lf_RX6_50 rfl dX6_removeRope_10 ?_
    refine g_icmp_ge (tgt := 39) fx dX6_removeRope_13 (by decide) hok (fun hok => ?_) (fun hok => ?_)
    · exact hx0  G _ _ _  hw (lv_sub hl [0] rfl) (gOk_some hok)
    · refine lv_aload_n fx.1 fx.2.1 dX6_removeRope_16 rfl (lv_at hl 0 rfl) ?_
      refine g_getr fx hw h0 lf_RX6_19 rfl dX6_removeRope_17 hok (fun a1 h_a1 hok => ?_)
      refine lv_iload_n fx.1 fx.2.1 dX6_removeRope_20 rfl (lv_at hl 1 rfl) ?_
      refine g_aald fx hw 15 3 h_a1 (by decide) (by decide) rfl (κ' := 5) rfl dX6_removeRope_21 hok (fun a2 h_a2 hok => ?_)
      refine lv_aload_n fx.1 fx.2.1 dX6_removeRope_22 rfl (lv_at hl 0 rfl) ?_
      refine g_getr fx hw h0 lf_RX6_19 rfl dX6_removeRope_23 hok (fun a3 h_a3 hok => ?_)
      refine lv_iload_n fx.1 fx.2.1 dX6_removeRope_26 rfl (lv_at hl 1 rfl) ?_
      refine lv_iconst (v := 1) fx.1 fx.2.1 dX6_removeRope_27 (by decide) ?_
      refine lv_iadd fx.1 fx.2.1 dX6_removeRope_28 ?_
      refine g_aald fx hw 15 3 h_a3 (by decide) (by decide) rfl (κ' := 5) rfl dX6_removeRope_29 hok (fun a4 h_a4 hok => ?_)
      obtain ⟨G5, hf, hok⟩ := gOk_bind hok
      refine g_callV0 (κ := 5) fx hw (c_X5_become l X τ a2 a4 G h_a2 h_a4 hf) lv_RX6_53 ⟨rfl, rfl⟩ rfl rfl h_a2 rfl hl.1 rfl ⟨Nat.le_of_ble_eq_true rfl, Nat.le_of_ble_eq_true rfl⟩ (Nat.le_of_ble_eq_true rfl) ⟨Nat.le_of_ble_eq_true rfl, Nat.le_of_ble_eq_true rfl⟩ dX6_removeRope_30 (fun H locs hw => ?_)
      obtain ⟨v6, e_v6, hok⟩ := gOk_let hok
      refine lv_iinc (v := v6) (lv' := [(2, .int v6), (0, .ref x0)]) fx.1 fx.2.1 dX6_removeRope_33 hl (k := 1) rfl (by rw [e_v6]; rfl) (by decide) rfl (fun ls hl => ?_)
      refine lv_goto (tgt := 2) fx.1 fx.2.1 dX6_removeRope_36 (by decide) ?_
      exact hc v6 G5 _ _ _  hw (lv_sub hl [1, 0] rfl) (gOk_some hok)
theorem w_l_X6_removeRope_2 {X : gX} {τ : gτ} {p : Program} {l : Launch} {e : Env} {s : State} {m : MethodId} {args : Array Value} {below : List Frame} {meth : Method} {c : Code} (fx : gFx X p s m args meth c cX6_removeRope 3 RX6) (n : Nat) (x0 : Nat) (h0 : gK τ x0 6) {Q : State → Prop} {K : ((gG)) → Prop} (hx0 : ∀ (G : gG) (H : Heap) (locs : List Loc) (ls : Array Slot), gHw X τ G H locs → lv_has ls 3 [(0, .ref x0)] → K G → W p l e rm_X6_removeRope s m args below meth c H locs 0 0 Q (F0 m 39 ls [])) : ∀ (k : Nat) (x2 : Int32) (G : gG) (H : Heap) (locs : List Loc) (ls : Array Slot), gHw X τ G H locs → lv_has ls 3 [(0, .ref x0), (2, .int x2)] → gOk (gIter (fun (q : Int32 × gG) => b_X6_removeRope_2 τ n x0 q.1 q.2) k (x2, G)) K → W p l e rm_X6_removeRope s m args below meth c H locs 0 0 Q (F0 m 2 ls []) := by
  intro k
  induction k with
  | zero =>
    intro x2 G H locs ls hw hl hok
    exact gOk_iter0 hok
  | succ k hc =>
    intro x2 G H locs ls hw hl hok
    exact w_b_X6_removeRope_2 fx n x0 x2 h0 hw hl (gOk_iter hok) hc hx0
set_option maxHeartbeats 4000000 in
set_option maxRecDepth 100000 in
theorem w_X6_removeRope_39 {X : gX} {τ : gτ} {p : Program} {l : Launch} {e : Env} {s : State} {m : MethodId} {args : Array Value} {below : List Frame} {meth : Method} {c : Code} (fx : gFx X p s m args meth c cX6_removeRope 3 RX6) (n : Nat) (x0 : Nat)  (h0 : gK τ x0 6)  (hr : meth.sig.returnType = none) {G' : gG} {G : gG} {H : Heap} {locs : List Loc} {ls : Array Slot} (hw : gHw X τ G H locs) (hl : lv_has ls 3 [(0, .ref x0)]) (hok : gOk (k_X6_removeRope_39 τ n x0  G) (fun q => q = G'))  : W p l e rm_X6_removeRope s m args below meth c H locs 0 0 (MQ below (gQ X τ none G') args s 0 0 (gFree X)) (F0 m 39 ls []) := by
  unfold k_X6_removeRope_39 at hok
  refine lv_aload_n fx.1 fx.2.1 dX6_removeRope_39 rfl (lv_at hl 0 rfl) ?_
  refine lv_dup fx.1 fx.2.1 dX6_removeRope_40 rfl ?_
  refine g_geti fx hw h0 lf_RX6_50 rfl dX6_removeRope_41 ?_
  refine lv_iconst (v := 1) fx.1 fx.2.1 dX6_removeRope_44 (by decide) ?_
  refine lv_isub fx.1 fx.2.1 dX6_removeRope_45 ?_
  refine g_puti fx hw h0 lp_RX6_50 rfl rfl dX6_removeRope_46 hok (fun G8 H locs hw hok => ?_)
  cases gOk_some hok
  exact g_vret fx hw hr dX6_removeRope_49
set_option maxHeartbeats 4000000 in
set_option maxRecDepth 100000 in
theorem c_X6_removeRope (l : Launch) (X : gX) (τ : gτ) (n : Nat) (x0 : Nat) (x1 : Int32) (G : gG) (h0 : gK τ x0 6) {G' : gG} (h : f_X6_removeRope τ n x0 x1 G = some G') : gM l X τ yX6_removeRope cX6_removeRope 3 none rm_X6_removeRope [.ref x0, .int x1] G none G' := by
  refine g_body (by decide +kernel) (Nat.le_of_ble_eq_true rfl) ?_
  intro p e s m args below meth c ls fx hr hw hl
  have fx : gFx X p s m args meth c cX6_removeRope 3 RX6 := fx
  have hl : lv_has ls 3 [(0, .ref x0), (1, .int x1)] := hl
  have hok : gOk (f_X6_removeRope τ n x0 x1 G) (fun q => q = G') := ⟨_, h, rfl⟩
  unfold f_X6_removeRope at hok
  show W p l e rm_X6_removeRope s m args below meth c s.heap [] 0 0 (MQ below (gQ X τ none G') args s 0 0 (gFree X)) _
  refine lv_iload_n fx.1 fx.2.1 dX6_removeRope_0 rfl (lv_at hl 1 rfl) ?_
  refine lv_istore_n (lv' := [(2, .int x1), (0, .ref x0), (1, .int x1)]) fx.1 fx.2.1 dX6_removeRope_1 rfl hl (by decide) rfl (fun ls hl => ?_)
  refine w_l_X6_removeRope_2 fx n x0 h0 ?_ n x1 G _ _ _  hw (lv_sub hl [1, 0] rfl) (gOk_bindK hok)
  intro G7 H locs ls hw hl hok
  have hok : gOk (ρ := gG) (k_X6_removeRope_39 τ n x0  G7) _ := hok
  exact w_X6_removeRope_39 fx n x0  h0  hr hw (lv_sub hl [0] rfl) hok
theorem dX6_twinsOf_0 : decode cX6_twinsOf 0 = .ok (.iconst 0, 1) := by decide +kernel
theorem dX6_twinsOf_1 : decode cX6_twinsOf 1 = .ok (.istore_n 2, 1) := by decide +kernel
theorem dX6_twinsOf_2 : decode cX6_twinsOf 2 = .ok (.iconst 0, 1) := by decide +kernel
theorem dX6_twinsOf_3 : decode cX6_twinsOf 3 = .ok (.istore_n 3, 1) := by decide +kernel
theorem dX6_twinsOf_4 : decode cX6_twinsOf 4 = .ok (.iload_n 3, 1) := by decide +kernel
theorem dX6_twinsOf_5 : decode cX6_twinsOf 5 = .ok (.aload_n 0, 1) := by decide +kernel
theorem dX6_twinsOf_6 : decode cX6_twinsOf 6 = .ok (.getfield 50, 3) := by decide +kernel
theorem dX6_twinsOf_9 : decode cX6_twinsOf 9 = .ok (.if_icmp .ge 91, 3) := by decide +kernel
theorem dX6_twinsOf_12 : decode cX6_twinsOf 12 = .ok (.aload_n 0, 1) := by decide +kernel
theorem dX6_twinsOf_13 : decode cX6_twinsOf 13 = .ok (.getfield 19, 3) := by decide +kernel
theorem dX6_twinsOf_16 : decode cX6_twinsOf 16 = .ok (.iload_n 3, 1) := by decide +kernel
theorem dX6_twinsOf_17 : decode cX6_twinsOf 17 = .ok (.aaload, 1) := by decide +kernel
theorem dX6_twinsOf_18 : decode cX6_twinsOf 18 = .ok (.astore 4, 2) := by decide +kernel
theorem dX6_twinsOf_20 : decode cX6_twinsOf 20 = .ok (.aload 4, 2) := by decide +kernel
theorem dX6_twinsOf_22 : decode cX6_twinsOf 22 = .ok (.aload_n 0, 1) := by decide +kernel
theorem dX6_twinsOf_23 : decode cX6_twinsOf 23 = .ok (.getfield 19, 3) := by decide +kernel
theorem dX6_twinsOf_26 : decode cX6_twinsOf 26 = .ok (.iload_n 1, 1) := by decide +kernel
theorem dX6_twinsOf_27 : decode cX6_twinsOf 27 = .ok (.aaload, 1) := by decide +kernel
theorem dX6_twinsOf_28 : decode cX6_twinsOf 28 = .ok (.getfield 126, 3) := by decide +kernel
theorem dX6_twinsOf_31 : decode cX6_twinsOf 31 = .ok (.invokevirtual 108, 3) := by decide +kernel
theorem dX6_twinsOf_34 : decode cX6_twinsOf 34 = .ok (.ifCond .eq 41, 3) := by decide +kernel
theorem dX6_twinsOf_37 : decode cX6_twinsOf 37 = .ok (.aload 4, 2) := by decide +kernel
theorem dX6_twinsOf_39 : decode cX6_twinsOf 39 = .ok (.aload_n 0, 1) := by decide +kernel
theorem dX6_twinsOf_40 : decode cX6_twinsOf 40 = .ok (.getfield 19, 3) := by decide +kernel
theorem dX6_twinsOf_43 : decode cX6_twinsOf 43 = .ok (.iload_n 1, 1) := by decide +kernel
theorem dX6_twinsOf_44 : decode cX6_twinsOf 44 = .ok (.aaload, 1) := by decide +kernel
theorem dX6_twinsOf_45 : decode cX6_twinsOf 45 = .ok (.getfield 129, 3) := by decide +kernel
theorem dX6_twinsOf_48 : decode cX6_twinsOf 48 = .ok (.invokevirtual 108, 3) := by decide +kernel
theorem dX6_twinsOf_51 : decode cX6_twinsOf 51 = .ok (.ifCond .eq 24, 3) := by decide +kernel
theorem dX6_twinsOf_54 : decode cX6_twinsOf 54 = .ok (.aload 4, 2) := by decide +kernel
theorem dX6_twinsOf_56 : decode cX6_twinsOf 56 = .ok (.aload_n 0, 1) := by decide +kernel
theorem dX6_twinsOf_57 : decode cX6_twinsOf 57 = .ok (.getfield 19, 3) := by decide +kernel
theorem dX6_twinsOf_60 : decode cX6_twinsOf 60 = .ok (.iload_n 1, 1) := by decide +kernel
theorem dX6_twinsOf_61 : decode cX6_twinsOf 61 = .ok (.aaload, 1) := by decide +kernel
theorem dX6_twinsOf_62 : decode cX6_twinsOf 62 = .ok (.getfield 132, 3) := by decide +kernel
theorem dX6_twinsOf_65 : decode cX6_twinsOf 65 = .ok (.invokevirtual 108, 3) := by decide +kernel
theorem dX6_twinsOf_68 : decode cX6_twinsOf 68 = .ok (.ifCond .eq 7, 3) := by decide +kernel
theorem dX6_twinsOf_71 : decode cX6_twinsOf 71 = .ok (.iconst 1, 1) := by decide +kernel
theorem dX6_twinsOf_72 : decode cX6_twinsOf 72 = .ok (.goto 4, 3) := by decide +kernel
theorem dX6_twinsOf_75 : decode cX6_twinsOf 75 = .ok (.iconst 0, 1) := by decide +kernel
theorem dX6_twinsOf_76 : decode cX6_twinsOf 76 = .ok (.istore 5, 2) := by decide +kernel
theorem dX6_twinsOf_78 : decode cX6_twinsOf 78 = .ok (.iload 5, 2) := by decide +kernel
theorem dX6_twinsOf_80 : decode cX6_twinsOf 80 = .ok (.ifCond .eq 14, 3) := by decide +kernel
theorem dX6_twinsOf_83 : decode cX6_twinsOf 83 = .ok (.iload_n 3, 1) := by decide +kernel
theorem dX6_twinsOf_84 : decode cX6_twinsOf 84 = .ok (.iload_n 1, 1) := by decide +kernel
theorem dX6_twinsOf_85 : decode cX6_twinsOf 85 = .ok (.if_icmp .eq 9, 3) := by decide +kernel
theorem dX6_twinsOf_88 : decode cX6_twinsOf 88 = .ok (.iload_n 2, 1) := by decide +kernel
theorem dX6_twinsOf_89 : decode cX6_twinsOf 89 = .ok (.iconst 1, 1) := by decide +kernel
theorem dX6_twinsOf_90 : decode cX6_twinsOf 90 = .ok (.iload_n 3, 1) := by decide +kernel
theorem dX6_twinsOf_91 : decode cX6_twinsOf 91 = .ok (.ishl, 1) := by decide +kernel
theorem dX6_twinsOf_92 : decode cX6_twinsOf 92 = .ok (.ior, 1) := by decide +kernel
theorem dX6_twinsOf_93 : decode cX6_twinsOf 93 = .ok (.istore_n 2, 1) := by decide +kernel
theorem dX6_twinsOf_94 : decode cX6_twinsOf 94 = .ok (.iinc 3 1, 3) := by decide +kernel
theorem dX6_twinsOf_97 : decode cX6_twinsOf 97 = .ok (.goto (-93), 3) := by decide +kernel
theorem dX6_twinsOf_100 : decode cX6_twinsOf 100 = .ok (.iload_n 2, 1) := by decide +kernel
theorem dX6_twinsOf_101 : decode cX6_twinsOf 101 = .ok (.ireturn, 1) := by decide +kernel
theorem lf_RX6_126 : gLf RX6 126 5 0 := ⟨(RX5, TX5, 10), rfl, by decide, wA_t (wt1 (List.mem_of_getElem? (i := 165) (by decide +kernel))) (by decide +kernel), rfl⟩
theorem lf_RX6_129 : gLf RX6 129 5 1 := ⟨(RX5, TX5, 10), rfl, by decide, wA_t (wt1 (List.mem_of_getElem? (i := 169) (by decide +kernel))) (by decide +kernel), rfl⟩
theorem lf_RX6_132 : gLf RX6 132 5 2 := ⟨(RX5, TX5, 10), rfl, by decide, wA_t (wt1 (List.mem_of_getElem? (i := 173) (by decide +kernel))) (by decide +kernel), rfl⟩
def rm_X6_twinsOf : Room := { frames := 1, cells := 0, slots := 0, locals := 21 }
def k_X6_twinsOf_76 (τ : gτ) (n : Nat) (x0 : Nat) (x1 : Int32) (x2 : Int32) (x3 : Int32) (s0 : Int32) (G : gG) : Option ((Int32 × Int32) ⊕ ((Int32))) :=
  if s0 = 0 then (gLet (x3 + 1) fun v6 =>
  some (.inl (x2, v6)))
  else (if x3 = x1 then (gLet (x3 + 1) fun v7 =>
  some (.inl (x2, v7)))
  else (gLet (x2 ||| ((1 : Int32) <<< (x3 &&& 31))) fun v8 =>
  gLet (x3 + 1) fun v9 =>
  some (.inl (v8, v9))))
def k_X6_twinsOf_75 (τ : gτ) (n : Nat) (x0 : Nat) (x1 : Int32) (x2 : Int32) (x3 : Int32)  (G : gG) : Option ((Int32 × Int32) ⊕ ((Int32))) :=
  k_X6_twinsOf_76 τ n x0 x1 x2 x3 (0 : Int32) G
def b_X6_twinsOf_4 (τ : gτ) (n : Nat) (x0 : Nat) (x1 : Int32) (x2 : Int32) (x3 : Int32) (G : gG) : Option ((Int32 × Int32) ⊕ ((Int32))) :=
  if (gi G 6 5 x0) ≤ x3 then (some (.inr x2))
  else ((gr G 6 1 x0).bind fun a1 =>
  gchk (gIn x3 (gn τ a1)) <| (gq G a1 (Int32.toNatClampNeg x3)).bind fun a2 =>
  (gr G 6 1 x0).bind fun a3 =>
  gchk (gIn x1 (gn τ a3)) <| (gq G a3 (Int32.toNatClampNeg x1)).bind fun a4 =>
  (f_X5_isOf a2 (gi G 5 0 a4) G).bind fun v5 =>
  if v5 = 0 then (k_X6_twinsOf_75 τ n x0 x1 x2 x3  G)
  else ((gr G 6 1 x0).bind fun a10 =>
  gchk (gIn x1 (gn τ a10)) <| (gq G a10 (Int32.toNatClampNeg x1)).bind fun a11 =>
  (f_X5_isOf a2 (gi G 5 1 a11) G).bind fun v12 =>
  if v12 = 0 then (k_X6_twinsOf_75 τ n x0 x1 x2 x3  G)
  else ((gr G 6 1 x0).bind fun a13 =>
  gchk (gIn x1 (gn τ a13)) <| (gq G a13 (Int32.toNatClampNeg x1)).bind fun a14 =>
  (f_X5_isOf a2 (gi G 5 2 a14) G).bind fun v15 =>
  if v15 = 0 then (k_X6_twinsOf_75 τ n x0 x1 x2 x3  G)
  else (k_X6_twinsOf_76 τ n x0 x1 x2 x3 (1 : Int32) G))))
def l_X6_twinsOf_4 (τ : gτ) (n : Nat) (x0 : Nat) (x1 : Int32) (x2 : Int32) (x3 : Int32) (G : gG) : Option ((Int32)) :=
  gIter (fun (q : Int32 × Int32) => b_X6_twinsOf_4 τ n x0 x1 q.1 q.2 G) n (x2, x3)
def f_X6_twinsOf (τ : gτ) (n : Nat) (x0 : Nat) (x1 : Int32) (G : gG) : Option (Int32) :=
  (l_X6_twinsOf_4 τ n x0 x1 (0 : Int32) (0 : Int32) G).bind fun q => gLet q fun z16 => 
  some (z16)
set_option maxHeartbeats 4000000 in
set_option maxRecDepth 100000 in
theorem w_X6_twinsOf_76 {X : gX} {τ : gτ} {p : Program} {l : Launch} {e : Env} {s : State} {m : MethodId} {args : Array Value} {below : List Frame} {meth : Method} {c : Code} (fx : gFx X p s m args meth c cX6_twinsOf 6 RX6) (n : Nat) (x0 : Nat) (x1 : Int32) (x2 : Int32) (x3 : Int32) (s0 : Int32) (h0 : gK τ x0 6)  {Q : State → Prop} {K : ((Int32 × Int32) ⊕ ((Int32))) → Prop} {G : gG} {H : Heap} {locs : List Loc} {ls : Array Slot} (hw : gHw X τ G H locs) (hl : lv_has ls 6 [(0, .ref x0), (1, .int x1), (2, .int x2), (3, .int x3)]) (hok : gOk (k_X6_twinsOf_76 τ n x0 x1 x2 x3 s0 G) K) (hc : ∀ (y2 : Int32) (y3 : Int32) (H : Heap) (locs : List Loc) (ls : Array Slot), gHw X τ G H locs → lv_has ls 6 [(0, .ref x0), (1, .int x1), (2, .int y2), (3, .int y3)] → K (.inl (y2, y3)) → W p l e rm_X6_twinsOf s m args below meth c H locs 0 0 Q (F0 m 4 ls [])) (hx0 : ∀ (y2 : Int32) (H : Heap) (locs : List Loc) (ls : Array Slot), gHw X τ G H locs → lv_has ls 6 [(2, .int y2)] → K (.inr y2) → W p l e rm_X6_twinsOf s m args below meth c H locs 0 0 Q (F0 m 100 ls [])) : W p l e rm_X6_twinsOf s m args below meth c H locs 0 0 Q (F0 m 76 ls [.int s0]) := by
  unfold k_X6_twinsOf_76 at hok
  refine lv_istore (lv' := [(5, .int s0), (0, .ref x0), (1, .int x1), (2, .int x2), (3, .int x3)]) fx.1 fx.2.1 dX6_twinsOf_76 hl (by decide) rfl (fun ls hl => ?_)
  refine lv_iload fx.1 fx.2.1 dX6_twinsOf_78 (lv_at hl 0 rfl) ?_
  refine g_if_eq (tgt := 94) fx dX6_twinsOf_80 (by decide) hok (fun hok => ?_) (fun hok => ?_)
  · obtain ⟨v6, e_v6, hok⟩ := gOk_let hok
    refine lv_iinc (v := v6) (lv' := [(3, .int v6), (5, .int s0), (0, .ref x0), (1, .int x1), (2, .int x2)]) fx.1 fx.2.1 dX6_twinsOf_94 hl (k := 4) rfl (by rw [e_v6]; rfl) (by decide) rfl (fun ls hl => ?_)
    refine lv_goto (tgt := 4) fx.1 fx.2.1 dX6_twinsOf_97 (by decide) ?_
    exact hc x2 v6  _ _ _  hw (lv_sub hl [2, 3, 4, 0] rfl) (gOk_some hok)
  · refine lv_iload_n fx.1 fx.2.1 dX6_twinsOf_83 rfl (lv_at hl 4 rfl) ?_
    refine lv_iload_n fx.1 fx.2.1 dX6_twinsOf_84 rfl (lv_at hl 2 rfl) ?_
    refine g_icmp_eq (tgt := 94) fx dX6_twinsOf_85 (by decide) hok (fun hok => ?_) (fun hok => ?_)
    · obtain ⟨v7, e_v7, hok⟩ := gOk_let hok
      refine lv_iinc (v := v7) (lv' := [(3, .int v7), (5, .int s0), (0, .ref x0), (1, .int x1), (2, .int x2)]) fx.1 fx.2.1 dX6_twinsOf_94 hl (k := 4) rfl (by rw [e_v7]; rfl) (by decide) rfl (fun ls hl => ?_)
      refine lv_goto (tgt := 4) fx.1 fx.2.1 dX6_twinsOf_97 (by decide) ?_
      exact hc x2 v7  _ _ _  hw (lv_sub hl [2, 3, 4, 0] rfl) (gOk_some hok)
    · refine lv_iload_n fx.1 fx.2.1 dX6_twinsOf_88 rfl (lv_at hl 3 rfl) ?_
      refine lv_iconst (v := 1) fx.1 fx.2.1 dX6_twinsOf_89 (by decide) ?_
      refine lv_iload_n fx.1 fx.2.1 dX6_twinsOf_90 rfl (lv_at hl 4 rfl) ?_
      refine lv_ishl fx.1 fx.2.1 dX6_twinsOf_91 ?_
      refine lv_ior fx.1 fx.2.1 dX6_twinsOf_92 ?_
      refine g_leti hok (fun v8 hok => ?_)
      refine lv_istore_n (lv' := [(2, .int v8), (5, .int s0), (0, .ref x0), (1, .int x1), (3, .int x3)]) fx.1 fx.2.1 dX6_twinsOf_93 rfl hl (by decide) rfl (fun ls hl => ?_)
      obtain ⟨v9, e_v9, hok⟩ := gOk_let hok
      refine lv_iinc (v := v9) (lv' := [(3, .int v9), (2, .int v8), (5, .int s0), (0, .ref x0), (1, .int x1)]) fx.1 fx.2.1 dX6_twinsOf_94 hl (k := 4) rfl (by rw [e_v9]; rfl) (by decide) rfl (fun ls hl => ?_)
      refine lv_goto (tgt := 4) fx.1 fx.2.1 dX6_twinsOf_97 (by decide) ?_
      exact hc v8 v9  _ _ _  hw (lv_sub hl [3, 4, 1, 0] rfl) (gOk_some hok)
set_option maxHeartbeats 4000000 in
set_option maxRecDepth 100000 in
theorem w_X6_twinsOf_75 {X : gX} {τ : gτ} {p : Program} {l : Launch} {e : Env} {s : State} {m : MethodId} {args : Array Value} {below : List Frame} {meth : Method} {c : Code} (fx : gFx X p s m args meth c cX6_twinsOf 6 RX6) (n : Nat) (x0 : Nat) (x1 : Int32) (x2 : Int32) (x3 : Int32)  (h0 : gK τ x0 6)  {Q : State → Prop} {K : ((Int32 × Int32) ⊕ ((Int32))) → Prop} {G : gG} {H : Heap} {locs : List Loc} {ls : Array Slot} (hw : gHw X τ G H locs) (hl : lv_has ls 6 [(0, .ref x0), (1, .int x1), (2, .int x2), (3, .int x3)]) (hok : gOk (k_X6_twinsOf_75 τ n x0 x1 x2 x3  G) K) (hc : ∀ (y2 : Int32) (y3 : Int32) (H : Heap) (locs : List Loc) (ls : Array Slot), gHw X τ G H locs → lv_has ls 6 [(0, .ref x0), (1, .int x1), (2, .int y2), (3, .int y3)] → K (.inl (y2, y3)) → W p l e rm_X6_twinsOf s m args below meth c H locs 0 0 Q (F0 m 4 ls [])) (hx0 : ∀ (y2 : Int32) (H : Heap) (locs : List Loc) (ls : Array Slot), gHw X τ G H locs → lv_has ls 6 [(2, .int y2)] → K (.inr y2) → W p l e rm_X6_twinsOf s m args below meth c H locs 0 0 Q (F0 m 100 ls [])) : W p l e rm_X6_twinsOf s m args below meth c H locs 0 0 Q (F0 m 75 ls []) := by
  unfold k_X6_twinsOf_75 at hok
  refine lv_iconst (v := 0) fx.1 fx.2.1 dX6_twinsOf_75 (by decide) ?_
  exact w_X6_twinsOf_76 fx n x0 x1 x2 x3 (0 : Int32) h0  hw (lv_sub hl [0, 1, 2, 3] rfl) hok hc hx0
set_option maxHeartbeats 4000000 in
set_option maxRecDepth 100000 in
theorem w_b_X6_twinsOf_4 {X : gX} {τ : gτ} {p : Program} {l : Launch} {e : Env} {s : State} {m : MethodId} {args : Array Value} {below : List Frame} {meth : Method} {c : Code} (fx : gFx X p s m args meth c cX6_twinsOf 6 RX6) (n : Nat) (x0 : Nat) (x1 : Int32) (x2 : Int32) (x3 : Int32) (h0 : gK τ x0 6) {Q : State → Prop} {K : ((Int32 × Int32) ⊕ ((Int32))) → Prop} {G : gG} {H : Heap} {locs : List Loc} {ls : Array Slot} (hw : gHw X τ G H locs) (hl : lv_has ls 6 [(0, .ref x0), (1, .int x1), (2, .int x2), (3, .int x3)]) (hok : gOk (b_X6_twinsOf_4 τ n x0 x1 x2 x3 G) K) (hc : ∀ (y2 : Int32) (y3 : Int32) (H : Heap) (locs : List Loc) (ls : Array Slot), gHw X τ G H locs → lv_has ls 6 [(0, .ref x0), (1, .int x1), (2, .int y2), (3, .int y3)] → K (.inl (y2, y3)) → W p l e rm_X6_twinsOf s m args below meth c H locs 0 0 Q (F0 m 4 ls [])) (hx0 : ∀ (y2 : Int32) (H : Heap) (locs : List Loc) (ls : Array Slot), gHw X τ G H locs → lv_has ls 6 [(2, .int y2)] → K (.inr y2) → W p l e rm_X6_twinsOf s m args below meth c H locs 0 0 Q (F0 m 100 ls [])) : W p l e rm_X6_twinsOf s m args below meth c H locs 0 0 Q (F0 m 4 ls []) := by
  unfold b_X6_twinsOf_4 at hok
  refine lv_iload_n fx.1 fx.2.1 dX6_twinsOf_4 rfl (lv_at hl 3 rfl) ?_
  refine lv_aload_n fx.1 fx.2.1 dX6_twinsOf_5 rfl (lv_at hl 0 rfl) ?_
  refine g_geti fx hw h0 lf_RX6_50 rfl dX6_twinsOf_6 ?_
  refine g_icmp_ge (tgt := 100) fx dX6_twinsOf_9 (by decide) hok (fun hok => ?_) (fun hok => ?_)
  · exact hx0 x2  _ _ _  hw (lv_sub hl [2] rfl) (gOk_some hok)
  · refine lv_aload_n fx.1 fx.2.1 dX6_twinsOf_12 rfl (lv_at hl 0 rfl) ?_
    refine g_getr fx hw h0 lf_RX6_19 rfl dX6_twinsOf_13 hok (fun a1 h_a1 hok => ?_)
    refine lv_iload_n fx.1 fx.2.1 dX6_twinsOf_16 rfl (lv_at hl 3 rfl) ?_
    refine g_aald fx hw 15 3 h_a1 (by decide) (by decide) rfl (κ' := 5) rfl dX6_twinsOf_17 hok (fun a2 h_a2 hok => ?_)
    refine lv_astore (lv' := [(4, .ref a2), (0, .ref x0), (1, .int x1), (2, .int x2), (3, .int x3)]) fx.1 fx.2.1 dX6_twinsOf_18 hl (by decide) rfl (fun ls hl => ?_)
    refine lv_aload fx.1 fx.2.1 dX6_twinsOf_20 (lv_at hl 0 rfl) ?_
    refine lv_aload_n fx.1 fx.2.1 dX6_twinsOf_22 rfl (lv_at hl 1 rfl) ?_
    refine g_getr fx hw h0 lf_RX6_19 rfl dX6_twinsOf_23 hok (fun a3 h_a3 hok => ?_)
    refine lv_iload_n fx.1 fx.2.1 dX6_twinsOf_26 rfl (lv_at hl 2 rfl) ?_
    refine g_aald fx hw 15 3 h_a3 (by decide) (by decide) rfl (κ' := 5) rfl dX6_twinsOf_27 hok (fun a4 h_a4 hok => ?_)
    refine g_geti fx hw h_a4 lf_RX6_126 rfl dX6_twinsOf_28 ?_
    obtain ⟨v5, hf, hok⟩ := gOk_bind hok
    refine g_callV0 (κ := 5) fx hw (c_X5_isOf l X τ a2 (gi G 5 0 a4) G h_a2 hf) lv_RX6_108 ⟨rfl, rfl⟩ rfl rfl h_a2 rfl hl.1 rfl ⟨Nat.le_of_ble_eq_true rfl, Nat.le_of_ble_eq_true rfl⟩ (Nat.le_of_ble_eq_true rfl) ⟨Nat.le_of_ble_eq_true rfl, Nat.le_of_ble_eq_true rfl⟩ dX6_twinsOf_31 (fun H locs hw => ?_)
    refine g_if_eq (tgt := 75) fx dX6_twinsOf_34 (by decide) hok (fun hok => ?_) (fun hok => ?_)
    · exact w_X6_twinsOf_75 fx n x0 x1 x2 x3  h0  hw (lv_sub hl [1, 2, 3, 4] rfl) hok hc hx0
    · refine lv_aload fx.1 fx.2.1 dX6_twinsOf_37 (lv_at hl 0 rfl) ?_
      refine lv_aload_n fx.1 fx.2.1 dX6_twinsOf_39 rfl (lv_at hl 1 rfl) ?_
      refine g_getr fx hw h0 lf_RX6_19 rfl dX6_twinsOf_40 hok (fun a10 h_a10 hok => ?_)
      refine lv_iload_n fx.1 fx.2.1 dX6_twinsOf_43 rfl (lv_at hl 2 rfl) ?_
      refine g_aald fx hw 15 3 h_a10 (by decide) (by decide) rfl (κ' := 5) rfl dX6_twinsOf_44 hok (fun a11 h_a11 hok => ?_)
      refine g_geti fx hw h_a11 lf_RX6_129 rfl dX6_twinsOf_45 ?_
      obtain ⟨v12, hf, hok⟩ := gOk_bind hok
      refine g_callV0 (κ := 5) fx hw (c_X5_isOf l X τ a2 (gi G 5 1 a11) G h_a2 hf) lv_RX6_108 ⟨rfl, rfl⟩ rfl rfl h_a2 rfl hl.1 rfl ⟨Nat.le_of_ble_eq_true rfl, Nat.le_of_ble_eq_true rfl⟩ (Nat.le_of_ble_eq_true rfl) ⟨Nat.le_of_ble_eq_true rfl, Nat.le_of_ble_eq_true rfl⟩ dX6_twinsOf_48 (fun H locs hw => ?_)
      refine g_if_eq (tgt := 75) fx dX6_twinsOf_51 (by decide) hok (fun hok => ?_) (fun hok => ?_)
      · exact w_X6_twinsOf_75 fx n x0 x1 x2 x3  h0  hw (lv_sub hl [1, 2, 3, 4] rfl) hok hc hx0
      · refine lv_aload fx.1 fx.2.1 dX6_twinsOf_54 (lv_at hl 0 rfl) ?_
        refine lv_aload_n fx.1 fx.2.1 dX6_twinsOf_56 rfl (lv_at hl 1 rfl) ?_
        refine g_getr fx hw h0 lf_RX6_19 rfl dX6_twinsOf_57 hok (fun a13 h_a13 hok => ?_)
        refine lv_iload_n fx.1 fx.2.1 dX6_twinsOf_60 rfl (lv_at hl 2 rfl) ?_
        refine g_aald fx hw 15 3 h_a13 (by decide) (by decide) rfl (κ' := 5) rfl dX6_twinsOf_61 hok (fun a14 h_a14 hok => ?_)
        refine g_geti fx hw h_a14 lf_RX6_132 rfl dX6_twinsOf_62 ?_
        obtain ⟨v15, hf, hok⟩ := gOk_bind hok
        refine g_callV0 (κ := 5) fx hw (c_X5_isOf l X τ a2 (gi G 5 2 a14) G h_a2 hf) lv_RX6_108 ⟨rfl, rfl⟩ rfl rfl h_a2 rfl hl.1 rfl ⟨Nat.le_of_ble_eq_true rfl, Nat.le_of_ble_eq_true rfl⟩ (Nat.le_of_ble_eq_true rfl) ⟨Nat.le_of_ble_eq_true rfl, Nat.le_of_ble_eq_true rfl⟩ dX6_twinsOf_65 (fun H locs hw => ?_)
        refine g_if_eq (tgt := 75) fx dX6_twinsOf_68 (by decide) hok (fun hok => ?_) (fun hok => ?_)
        · exact w_X6_twinsOf_75 fx n x0 x1 x2 x3  h0  hw (lv_sub hl [1, 2, 3, 4] rfl) hok hc hx0
        · refine lv_iconst (v := 1) fx.1 fx.2.1 dX6_twinsOf_71 (by decide) ?_
          refine lv_goto (tgt := 76) fx.1 fx.2.1 dX6_twinsOf_72 (by decide) ?_
          exact w_X6_twinsOf_76 fx n x0 x1 x2 x3 (1 : Int32) h0  hw (lv_sub hl [1, 2, 3, 4] rfl) hok hc hx0
theorem w_l_X6_twinsOf_4 {X : gX} {τ : gτ} {p : Program} {l : Launch} {e : Env} {s : State} {m : MethodId} {args : Array Value} {below : List Frame} {meth : Method} {c : Code} (fx : gFx X p s m args meth c cX6_twinsOf 6 RX6) (n : Nat) (x0 : Nat) (x1 : Int32) (h0 : gK τ x0 6) (G : gG) {Q : State → Prop} {K : ((Int32)) → Prop} (hx0 : ∀ (y2 : Int32) (H : Heap) (locs : List Loc) (ls : Array Slot), gHw X τ G H locs → lv_has ls 6 [(2, .int y2)] → K y2 → W p l e rm_X6_twinsOf s m args below meth c H locs 0 0 Q (F0 m 100 ls [])) : ∀ (k : Nat) (x2 : Int32) (x3 : Int32) (H : Heap) (locs : List Loc) (ls : Array Slot), gHw X τ G H locs → lv_has ls 6 [(0, .ref x0), (1, .int x1), (2, .int x2), (3, .int x3)] → gOk (gIter (fun (q : Int32 × Int32) => b_X6_twinsOf_4 τ n x0 x1 q.1 q.2 G) k (x2, x3)) K → W p l e rm_X6_twinsOf s m args below meth c H locs 0 0 Q (F0 m 4 ls []) := by
  intro k
  induction k with
  | zero =>
    intro x2 x3  H locs ls hw hl hok
    exact gOk_iter0 hok
  | succ k hc =>
    intro x2 x3  H locs ls hw hl hok
    exact w_b_X6_twinsOf_4 fx n x0 x1 x2 x3 h0 hw hl (gOk_iter hok) hc hx0
set_option maxHeartbeats 4000000 in
set_option maxRecDepth 100000 in
theorem c_X6_twinsOf (l : Launch) (X : gX) (τ : gτ) (n : Nat) (x0 : Nat) (x1 : Int32) (G : gG) (h0 : gK τ x0 6) {r : Int32}  (h : f_X6_twinsOf τ n x0 x1 G = some r) : gM l X τ yX6_twinsOf cX6_twinsOf 6 (some .int) rm_X6_twinsOf [.ref x0, .int x1] G (some (.int r)) G := by
  refine g_body (by decide +kernel) (Nat.le_of_ble_eq_true rfl) ?_
  intro p e s m args below meth c ls fx hr hw hl
  have fx : gFx X p s m args meth c cX6_twinsOf 6 RX6 := fx
  have hl : lv_has ls 6 [(0, .ref x0), (1, .int x1)] := hl
  have hok : gOk (f_X6_twinsOf τ n x0 x1 G) (fun q => q = r) := ⟨_, h, rfl⟩
  unfold f_X6_twinsOf at hok
  show W p l e rm_X6_twinsOf s m args below meth c s.heap [] 0 0 (MQ below (gQ X τ (some (.int r)) G) args s 0 0 (gFree X)) _
  refine lv_iconst (v := 0) fx.1 fx.2.1 dX6_twinsOf_0 (by decide) ?_
  refine lv_istore_n (lv' := [(2, .int (0 : Int32)), (0, .ref x0), (1, .int x1)]) fx.1 fx.2.1 dX6_twinsOf_1 rfl hl (by decide) rfl (fun ls hl => ?_)
  refine lv_iconst (v := 0) fx.1 fx.2.1 dX6_twinsOf_2 (by decide) ?_
  refine lv_istore_n (lv' := [(3, .int (0 : Int32)), (2, .int (0 : Int32)), (0, .ref x0), (1, .int x1)]) fx.1 fx.2.1 dX6_twinsOf_3 rfl hl (by decide) rfl (fun ls hl => ?_)
  refine w_l_X6_twinsOf_4 fx n x0 x1 h0 G ?_ n (0 : Int32) (0 : Int32)  _ _ _  hw (lv_sub hl [2, 3, 1, 0] rfl) (gOk_bindK hok)
  intro z16  H locs ls hw hl hok
  have hok : gOk (ρ := Int32) (some (z16)) _ := hok
  refine lv_iload_n fx.1 fx.2.1 dX6_twinsOf_100 rfl (lv_at hl 0 rfl) ?_
  cases gOk_some hok
  exact g_iret fx hw hr dX6_twinsOf_101
theorem dX6_brokenRopes_0 : decode cX6_brokenRopes 0 = .ok (.iconst 0, 1) := by decide +kernel
theorem dX6_brokenRopes_1 : decode cX6_brokenRopes 1 = .ok (.istore_n 1, 1) := by decide +kernel
theorem dX6_brokenRopes_2 : decode cX6_brokenRopes 2 = .ok (.iconst 0, 1) := by decide +kernel
theorem dX6_brokenRopes_3 : decode cX6_brokenRopes 3 = .ok (.istore_n 2, 1) := by decide +kernel
theorem dX6_brokenRopes_4 : decode cX6_brokenRopes 4 = .ok (.iload_n 2, 1) := by decide +kernel
theorem dX6_brokenRopes_5 : decode cX6_brokenRopes 5 = .ok (.aload_n 0, 1) := by decide +kernel
theorem dX6_brokenRopes_6 : decode cX6_brokenRopes 6 = .ok (.getfield 50, 3) := by decide +kernel
theorem dX6_brokenRopes_9 : decode cX6_brokenRopes 9 = .ok (.if_icmp .ge 27, 3) := by decide +kernel
theorem dX6_brokenRopes_12 : decode cX6_brokenRopes 12 = .ok (.aload_n 0, 1) := by decide +kernel
theorem dX6_brokenRopes_13 : decode cX6_brokenRopes 13 = .ok (.getfield 19, 3) := by decide +kernel
theorem dX6_brokenRopes_16 : decode cX6_brokenRopes 16 = .ok (.iload_n 2, 1) := by decide +kernel
theorem dX6_brokenRopes_17 : decode cX6_brokenRopes 17 = .ok (.aaload, 1) := by decide +kernel
theorem dX6_brokenRopes_18 : decode cX6_brokenRopes 18 = .ok (.getfield 135, 3) := by decide +kernel
theorem dX6_brokenRopes_21 : decode cX6_brokenRopes 21 = .ok (.ifCond .eq 9, 3) := by decide +kernel
theorem dX6_brokenRopes_24 : decode cX6_brokenRopes 24 = .ok (.iload_n 1, 1) := by decide +kernel
theorem dX6_brokenRopes_25 : decode cX6_brokenRopes 25 = .ok (.iconst 1, 1) := by decide +kernel
theorem dX6_brokenRopes_26 : decode cX6_brokenRopes 26 = .ok (.iload_n 2, 1) := by decide +kernel
theorem dX6_brokenRopes_27 : decode cX6_brokenRopes 27 = .ok (.ishl, 1) := by decide +kernel
theorem dX6_brokenRopes_28 : decode cX6_brokenRopes 28 = .ok (.ior, 1) := by decide +kernel
theorem dX6_brokenRopes_29 : decode cX6_brokenRopes 29 = .ok (.istore_n 1, 1) := by decide +kernel
theorem dX6_brokenRopes_30 : decode cX6_brokenRopes 30 = .ok (.iinc 2 1, 3) := by decide +kernel
theorem dX6_brokenRopes_33 : decode cX6_brokenRopes 33 = .ok (.goto (-29), 3) := by decide +kernel
theorem dX6_brokenRopes_36 : decode cX6_brokenRopes 36 = .ok (.iload_n 1, 1) := by decide +kernel
theorem dX6_brokenRopes_37 : decode cX6_brokenRopes 37 = .ok (.ireturn, 1) := by decide +kernel
theorem lf_RX6_135 : gLf RX6 135 5 9 := ⟨(RX5, TX5, 10), rfl, by decide, wA_t (wt1 (List.mem_of_getElem? (i := 204) (by decide +kernel))) (by decide +kernel), rfl⟩
def rm_X6_brokenRopes : Room := { frames := 0, cells := 0, slots := 0, locals := 0 }
def b_X6_brokenRopes_4 (τ : gτ) (n : Nat) (x0 : Nat) (x1 : Int32) (x2 : Int32) (G : gG) : Option ((Int32 × Int32) ⊕ ((Int32))) :=
  if (gi G 6 5 x0) ≤ x2 then (some (.inr x1))
  else ((gr G 6 1 x0).bind fun a1 =>
  gchk (gIn x2 (gn τ a1)) <| (gq G a1 (Int32.toNatClampNeg x2)).bind fun a2 =>
  if (gi G 5 9 a2) = 0 then (gLet (x2 + 1) fun v3 =>
  some (.inl (x1, v3)))
  else (gLet (x1 ||| ((1 : Int32) <<< (x2 &&& 31))) fun v4 =>
  gLet (x2 + 1) fun v5 =>
  some (.inl (v4, v5))))
def l_X6_brokenRopes_4 (τ : gτ) (n : Nat) (x0 : Nat) (x1 : Int32) (x2 : Int32) (G : gG) : Option ((Int32)) :=
  gIter (fun (q : Int32 × Int32) => b_X6_brokenRopes_4 τ n x0 q.1 q.2 G) n (x1, x2)
def f_X6_brokenRopes (τ : gτ) (n : Nat) (x0 : Nat) (G : gG) : Option (Int32) :=
  (l_X6_brokenRopes_4 τ n x0 (0 : Int32) (0 : Int32) G).bind fun q => gLet q fun z6 => 
  some (z6)
set_option maxHeartbeats 4000000 in
set_option maxRecDepth 100000 in
theorem w_b_X6_brokenRopes_4 {X : gX} {τ : gτ} {p : Program} {l : Launch} {e : Env} {s : State} {m : MethodId} {args : Array Value} {below : List Frame} {meth : Method} {c : Code} (fx : gFx X p s m args meth c cX6_brokenRopes 3 RX6) (n : Nat) (x0 : Nat) (x1 : Int32) (x2 : Int32) (h0 : gK τ x0 6) {Q : State → Prop} {K : ((Int32 × Int32) ⊕ ((Int32))) → Prop} {G : gG} {H : Heap} {locs : List Loc} {ls : Array Slot} (hw : gHw X τ G H locs) (hl : lv_has ls 3 [(0, .ref x0), (1, .int x1), (2, .int x2)]) (hok : gOk (b_X6_brokenRopes_4 τ n x0 x1 x2 G) K) (hc : ∀ (y1 : Int32) (y2 : Int32) (H : Heap) (locs : List Loc) (ls : Array Slot), gHw X τ G H locs → lv_has ls 3 [(0, .ref x0), (1, .int y1), (2, .int y2)] → K (.inl (y1, y2)) → W p l e rm_X6_brokenRopes s m args below meth c H locs 0 0 Q (F0 m 4 ls [])) (hx0 : ∀ (y1 : Int32) (H : Heap) (locs : List Loc) (ls : Array Slot), gHw X τ G H locs → lv_has ls 3 [(1, .int y1)] → K (.inr y1) → W p l e rm_X6_brokenRopes s m args below meth c H locs 0 0 Q (F0 m 36 ls [])) : W p l e rm_X6_brokenRopes s m args below meth c H locs 0 0 Q (F0 m 4 ls []) := by
  unfold b_X6_brokenRopes_4 at hok
  refine lv_iload_n fx.1 fx.2.1 dX6_brokenRopes_4 rfl (lv_at hl 2 rfl) ?_
  refine lv_aload_n fx.1 fx.2.1 dX6_brokenRopes_5 rfl (lv_at hl 0 rfl) ?_
  refine g_geti fx hw h0 lf_RX6_50 rfl dX6_brokenRopes_6 ?_
  refine g_icmp_ge (tgt := 36) fx dX6_brokenRopes_9 (by decide) hok (fun hok => ?_) (fun hok => ?_)
  · exact hx0 x1  _ _ _  hw (lv_sub hl [1] rfl) (gOk_some hok)
  · refine lv_aload_n fx.1 fx.2.1 dX6_brokenRopes_12 rfl (lv_at hl 0 rfl) ?_
    refine g_getr fx hw h0 lf_RX6_19 rfl dX6_brokenRopes_13 hok (fun a1 h_a1 hok => ?_)
    refine lv_iload_n fx.1 fx.2.1 dX6_brokenRopes_16 rfl (lv_at hl 2 rfl) ?_
    refine g_aald fx hw 15 3 h_a1 (by decide) (by decide) rfl (κ' := 5) rfl dX6_brokenRopes_17 hok (fun a2 h_a2 hok => ?_)
    refine g_geti fx hw h_a2 lf_RX6_135 rfl dX6_brokenRopes_18 ?_
    refine g_if_eq (tgt := 30) fx dX6_brokenRopes_21 (by decide) hok (fun hok => ?_) (fun hok => ?_)
    · obtain ⟨v3, e_v3, hok⟩ := gOk_let hok
      refine lv_iinc (v := v3) (lv' := [(2, .int v3), (0, .ref x0), (1, .int x1)]) fx.1 fx.2.1 dX6_brokenRopes_30 hl (k := 2) rfl (by rw [e_v3]; rfl) (by decide) rfl (fun ls hl => ?_)
      refine lv_goto (tgt := 4) fx.1 fx.2.1 dX6_brokenRopes_33 (by decide) ?_
      exact hc x1 v3  _ _ _  hw (lv_sub hl [1, 2, 0] rfl) (gOk_some hok)
    · refine lv_iload_n fx.1 fx.2.1 dX6_brokenRopes_24 rfl (lv_at hl 1 rfl) ?_
      refine lv_iconst (v := 1) fx.1 fx.2.1 dX6_brokenRopes_25 (by decide) ?_
      refine lv_iload_n fx.1 fx.2.1 dX6_brokenRopes_26 rfl (lv_at hl 2 rfl) ?_
      refine lv_ishl fx.1 fx.2.1 dX6_brokenRopes_27 ?_
      refine lv_ior fx.1 fx.2.1 dX6_brokenRopes_28 ?_
      refine g_leti hok (fun v4 hok => ?_)
      refine lv_istore_n (lv' := [(1, .int v4), (0, .ref x0), (2, .int x2)]) fx.1 fx.2.1 dX6_brokenRopes_29 rfl hl (by decide) rfl (fun ls hl => ?_)
      obtain ⟨v5, e_v5, hok⟩ := gOk_let hok
      refine lv_iinc (v := v5) (lv' := [(2, .int v5), (1, .int v4), (0, .ref x0)]) fx.1 fx.2.1 dX6_brokenRopes_30 hl (k := 2) rfl (by rw [e_v5]; rfl) (by decide) rfl (fun ls hl => ?_)
      refine lv_goto (tgt := 4) fx.1 fx.2.1 dX6_brokenRopes_33 (by decide) ?_
      exact hc v4 v5  _ _ _  hw (lv_sub hl [2, 1, 0] rfl) (gOk_some hok)
theorem w_l_X6_brokenRopes_4 {X : gX} {τ : gτ} {p : Program} {l : Launch} {e : Env} {s : State} {m : MethodId} {args : Array Value} {below : List Frame} {meth : Method} {c : Code} (fx : gFx X p s m args meth c cX6_brokenRopes 3 RX6) (n : Nat) (x0 : Nat) (h0 : gK τ x0 6) (G : gG) {Q : State → Prop} {K : ((Int32)) → Prop} (hx0 : ∀ (y1 : Int32) (H : Heap) (locs : List Loc) (ls : Array Slot), gHw X τ G H locs → lv_has ls 3 [(1, .int y1)] → K y1 → W p l e rm_X6_brokenRopes s m args below meth c H locs 0 0 Q (F0 m 36 ls [])) : ∀ (k : Nat) (x1 : Int32) (x2 : Int32) (H : Heap) (locs : List Loc) (ls : Array Slot), gHw X τ G H locs → lv_has ls 3 [(0, .ref x0), (1, .int x1), (2, .int x2)] → gOk (gIter (fun (q : Int32 × Int32) => b_X6_brokenRopes_4 τ n x0 q.1 q.2 G) k (x1, x2)) K → W p l e rm_X6_brokenRopes s m args below meth c H locs 0 0 Q (F0 m 4 ls []) := by
  intro k
  induction k with
  | zero =>
    intro x1 x2  H locs ls hw hl hok
    exact gOk_iter0 hok
  | succ k hc =>
    intro x1 x2  H locs ls hw hl hok
    exact w_b_X6_brokenRopes_4 fx n x0 x1 x2 h0 hw hl (gOk_iter hok) hc hx0
set_option maxHeartbeats 4000000 in
set_option maxRecDepth 100000 in
theorem c_X6_brokenRopes (l : Launch) (X : gX) (τ : gτ) (n : Nat) (x0 : Nat) (G : gG) (h0 : gK τ x0 6) {r : Int32}  (h : f_X6_brokenRopes τ n x0 G = some r) : gM l X τ yX6_brokenRopes cX6_brokenRopes 3 (some .int) rm_X6_brokenRopes [.ref x0] G (some (.int r)) G := by
  refine g_body (by decide +kernel) (Nat.le_of_ble_eq_true rfl) ?_
  intro p e s m args below meth c ls fx hr hw hl
  have fx : gFx X p s m args meth c cX6_brokenRopes 3 RX6 := fx
  have hl : lv_has ls 3 [(0, .ref x0)] := hl
  have hok : gOk (f_X6_brokenRopes τ n x0 G) (fun q => q = r) := ⟨_, h, rfl⟩
  unfold f_X6_brokenRopes at hok
  show W p l e rm_X6_brokenRopes s m args below meth c s.heap [] 0 0 (MQ below (gQ X τ (some (.int r)) G) args s 0 0 (gFree X)) _
  refine lv_iconst (v := 0) fx.1 fx.2.1 dX6_brokenRopes_0 (by decide) ?_
  refine lv_istore_n (lv' := [(1, .int (0 : Int32)), (0, .ref x0)]) fx.1 fx.2.1 dX6_brokenRopes_1 rfl hl (by decide) rfl (fun ls hl => ?_)
  refine lv_iconst (v := 0) fx.1 fx.2.1 dX6_brokenRopes_2 (by decide) ?_
  refine lv_istore_n (lv' := [(2, .int (0 : Int32)), (1, .int (0 : Int32)), (0, .ref x0)]) fx.1 fx.2.1 dX6_brokenRopes_3 rfl hl (by decide) rfl (fun ls hl => ?_)
  refine w_l_X6_brokenRopes_4 fx n x0 h0 G ?_ n (0 : Int32) (0 : Int32)  _ _ _  hw (lv_sub hl [2, 1, 0] rfl) (gOk_bindK hok)
  intro z6  H locs ls hw hl hok
  have hok : gOk (ρ := Int32) (some (z6)) _ := hok
  refine lv_iload_n fx.1 fx.2.1 dX6_brokenRopes_36 rfl (lv_at hl 0 rfl) ?_
  cases gOk_some hok
  exact g_iret fx hw hr dX6_brokenRopes_37
theorem dX6_hangingLoads_0 : decode cX6_hangingLoads 0 = .ok (.iconst 0, 1) := by decide +kernel
theorem dX6_hangingLoads_1 : decode cX6_hangingLoads 1 = .ok (.istore_n 1, 1) := by decide +kernel
theorem dX6_hangingLoads_2 : decode cX6_hangingLoads 2 = .ok (.iconst 0, 1) := by decide +kernel
theorem dX6_hangingLoads_3 : decode cX6_hangingLoads 3 = .ok (.istore_n 2, 1) := by decide +kernel
theorem dX6_hangingLoads_4 : decode cX6_hangingLoads 4 = .ok (.iload_n 2, 1) := by decide +kernel
theorem dX6_hangingLoads_5 : decode cX6_hangingLoads 5 = .ok (.aload_n 0, 1) := by decide +kernel
theorem dX6_hangingLoads_6 : decode cX6_hangingLoads 6 = .ok (.getfield 50, 3) := by decide +kernel
theorem dX6_hangingLoads_9 : decode cX6_hangingLoads 9 = .ok (.if_icmp .ge 21, 3) := by decide +kernel
theorem dX6_hangingLoads_12 : decode cX6_hangingLoads 12 = .ok (.iload_n 1, 1) := by decide +kernel
theorem dX6_hangingLoads_13 : decode cX6_hangingLoads 13 = .ok (.aload_n 0, 1) := by decide +kernel
theorem dX6_hangingLoads_14 : decode cX6_hangingLoads 14 = .ok (.getfield 19, 3) := by decide +kernel
theorem dX6_hangingLoads_17 : decode cX6_hangingLoads 17 = .ok (.iload_n 2, 1) := by decide +kernel
theorem dX6_hangingLoads_18 : decode cX6_hangingLoads 18 = .ok (.aaload, 1) := by decide +kernel
theorem dX6_hangingLoads_19 : decode cX6_hangingLoads 19 = .ok (.getfield 123, 3) := by decide +kernel
theorem dX6_hangingLoads_22 : decode cX6_hangingLoads 22 = .ok (.iadd, 1) := by decide +kernel
theorem dX6_hangingLoads_23 : decode cX6_hangingLoads 23 = .ok (.istore_n 1, 1) := by decide +kernel
theorem dX6_hangingLoads_24 : decode cX6_hangingLoads 24 = .ok (.iinc 2 1, 3) := by decide +kernel
theorem dX6_hangingLoads_27 : decode cX6_hangingLoads 27 = .ok (.goto (-23), 3) := by decide +kernel
theorem dX6_hangingLoads_30 : decode cX6_hangingLoads 30 = .ok (.iload_n 1, 1) := by decide +kernel
theorem dX6_hangingLoads_31 : decode cX6_hangingLoads 31 = .ok (.ireturn, 1) := by decide +kernel
theorem lf_RX6_123 : gLf RX6 123 5 7 := ⟨(RX5, TX5, 10), rfl, by decide, wA_t (wt1 (List.mem_of_getElem? (i := 195) (by decide +kernel))) (by decide +kernel), rfl⟩
def rm_X6_hangingLoads : Room := { frames := 0, cells := 0, slots := 0, locals := 0 }
def b_X6_hangingLoads_4 (τ : gτ) (n : Nat) (x0 : Nat) (x1 : Int32) (x2 : Int32) (G : gG) : Option ((Int32 × Int32) ⊕ ((Int32))) :=
  if (gi G 6 5 x0) ≤ x2 then (some (.inr x1))
  else ((gr G 6 1 x0).bind fun a1 =>
  gchk (gIn x2 (gn τ a1)) <| (gq G a1 (Int32.toNatClampNeg x2)).bind fun a2 =>
  gLet (x1 + (gi G 5 7 a2)) fun v3 =>
  gLet (x2 + 1) fun v4 =>
  some (.inl (v3, v4)))
def l_X6_hangingLoads_4 (τ : gτ) (n : Nat) (x0 : Nat) (x1 : Int32) (x2 : Int32) (G : gG) : Option ((Int32)) :=
  gIter (fun (q : Int32 × Int32) => b_X6_hangingLoads_4 τ n x0 q.1 q.2 G) n (x1, x2)
def f_X6_hangingLoads (τ : gτ) (n : Nat) (x0 : Nat) (G : gG) : Option (Int32) :=
  (l_X6_hangingLoads_4 τ n x0 (0 : Int32) (0 : Int32) G).bind fun q => gLet q fun z5 => 
  some (z5)
set_option maxHeartbeats 4000000 in
set_option maxRecDepth 100000 in
theorem w_b_X6_hangingLoads_4 {X : gX} {τ : gτ} {p : Program} {l : Launch} {e : Env} {s : State} {m : MethodId} {args : Array Value} {below : List Frame} {meth : Method} {c : Code} (fx : gFx X p s m args meth c cX6_hangingLoads 3 RX6) (n : Nat) (x0 : Nat) (x1 : Int32) (x2 : Int32) (h0 : gK τ x0 6) {Q : State → Prop} {K : ((Int32 × Int32) ⊕ ((Int32))) → Prop} {G : gG} {H : Heap} {locs : List Loc} {ls : Array Slot} (hw : gHw X τ G H locs) (hl : lv_has ls 3 [(0, .ref x0), (1, .int x1), (2, .int x2)]) (hok : gOk (b_X6_hangingLoads_4 τ n x0 x1 x2 G) K) (hc : ∀ (y1 : Int32) (y2 : Int32) (H : Heap) (locs : List Loc) (ls : Array Slot), gHw X τ G H locs → lv_has ls 3 [(0, .ref x0), (1, .int y1), (2, .int y2)] → K (.inl (y1, y2)) → W p l e rm_X6_hangingLoads s m args below meth c H locs 0 0 Q (F0 m 4 ls [])) (hx0 : ∀ (y1 : Int32) (H : Heap) (locs : List Loc) (ls : Array Slot), gHw X τ G H locs → lv_has ls 3 [(1, .int y1)] → K (.inr y1) → W p l e rm_X6_hangingLoads s m args below meth c H locs 0 0 Q (F0 m 30 ls [])) : W p l e rm_X6_hangingLoads s m args below meth c H locs 0 0 Q (F0 m 4 ls []) := by
  unfold b_X6_hangingLoads_4 at hok
  refine lv_iload_n fx.1 fx.2.1 dX6_hangingLoads_4 rfl (lv_at hl 2 rfl) ?_
  refine lv_aload_n fx.1 fx.2.1 dX6_hangingLoads_5 rfl (lv_at hl 0 rfl) ?_
  refine g_geti fx hw h0 lf_RX6_50 rfl dX6_hangingLoads_6 ?_
  refine g_icmp_ge (tgt := 30) fx dX6_hangingLoads_9 (by decide) hok (fun hok => ?_) (fun hok => ?_)
  · exact hx0 x1  _ _ _  hw (lv_sub hl [1] rfl) (gOk_some hok)
  · refine lv_iload_n fx.1 fx.2.1 dX6_hangingLoads_12 rfl (lv_at hl 1 rfl) ?_
    refine lv_aload_n fx.1 fx.2.1 dX6_hangingLoads_13 rfl (lv_at hl 0 rfl) ?_
    refine g_getr fx hw h0 lf_RX6_19 rfl dX6_hangingLoads_14 hok (fun a1 h_a1 hok => ?_)
    refine lv_iload_n fx.1 fx.2.1 dX6_hangingLoads_17 rfl (lv_at hl 2 rfl) ?_
    refine g_aald fx hw 15 3 h_a1 (by decide) (by decide) rfl (κ' := 5) rfl dX6_hangingLoads_18 hok (fun a2 h_a2 hok => ?_)
    refine g_geti fx hw h_a2 lf_RX6_123 rfl dX6_hangingLoads_19 ?_
    refine lv_iadd fx.1 fx.2.1 dX6_hangingLoads_22 ?_
    refine g_leti hok (fun v3 hok => ?_)
    refine lv_istore_n (lv' := [(1, .int v3), (0, .ref x0), (2, .int x2)]) fx.1 fx.2.1 dX6_hangingLoads_23 rfl hl (by decide) rfl (fun ls hl => ?_)
    obtain ⟨v4, e_v4, hok⟩ := gOk_let hok
    refine lv_iinc (v := v4) (lv' := [(2, .int v4), (1, .int v3), (0, .ref x0)]) fx.1 fx.2.1 dX6_hangingLoads_24 hl (k := 2) rfl (by rw [e_v4]; rfl) (by decide) rfl (fun ls hl => ?_)
    refine lv_goto (tgt := 4) fx.1 fx.2.1 dX6_hangingLoads_27 (by decide) ?_
    exact hc v3 v4  _ _ _  hw (lv_sub hl [2, 1, 0] rfl) (gOk_some hok)
theorem w_l_X6_hangingLoads_4 {X : gX} {τ : gτ} {p : Program} {l : Launch} {e : Env} {s : State} {m : MethodId} {args : Array Value} {below : List Frame} {meth : Method} {c : Code} (fx : gFx X p s m args meth c cX6_hangingLoads 3 RX6) (n : Nat) (x0 : Nat) (h0 : gK τ x0 6) (G : gG) {Q : State → Prop} {K : ((Int32)) → Prop} (hx0 : ∀ (y1 : Int32) (H : Heap) (locs : List Loc) (ls : Array Slot), gHw X τ G H locs → lv_has ls 3 [(1, .int y1)] → K y1 → W p l e rm_X6_hangingLoads s m args below meth c H locs 0 0 Q (F0 m 30 ls [])) : ∀ (k : Nat) (x1 : Int32) (x2 : Int32) (H : Heap) (locs : List Loc) (ls : Array Slot), gHw X τ G H locs → lv_has ls 3 [(0, .ref x0), (1, .int x1), (2, .int x2)] → gOk (gIter (fun (q : Int32 × Int32) => b_X6_hangingLoads_4 τ n x0 q.1 q.2 G) k (x1, x2)) K → W p l e rm_X6_hangingLoads s m args below meth c H locs 0 0 Q (F0 m 4 ls []) := by
  intro k
  induction k with
  | zero =>
    intro x1 x2  H locs ls hw hl hok
    exact gOk_iter0 hok
  | succ k hc =>
    intro x1 x2  H locs ls hw hl hok
    exact w_b_X6_hangingLoads_4 fx n x0 x1 x2 h0 hw hl (gOk_iter hok) hc hx0
set_option maxHeartbeats 4000000 in
set_option maxRecDepth 100000 in
theorem c_X6_hangingLoads (l : Launch) (X : gX) (τ : gτ) (n : Nat) (x0 : Nat) (G : gG) (h0 : gK τ x0 6) {r : Int32}  (h : f_X6_hangingLoads τ n x0 G = some r) : gM l X τ yX6_hangingLoads cX6_hangingLoads 3 (some .int) rm_X6_hangingLoads [.ref x0] G (some (.int r)) G := by
  refine g_body (by decide +kernel) (Nat.le_of_ble_eq_true rfl) ?_
  intro p e s m args below meth c ls fx hr hw hl
  have fx : gFx X p s m args meth c cX6_hangingLoads 3 RX6 := fx
  have hl : lv_has ls 3 [(0, .ref x0)] := hl
  have hok : gOk (f_X6_hangingLoads τ n x0 G) (fun q => q = r) := ⟨_, h, rfl⟩
  unfold f_X6_hangingLoads at hok
  show W p l e rm_X6_hangingLoads s m args below meth c s.heap [] 0 0 (MQ below (gQ X τ (some (.int r)) G) args s 0 0 (gFree X)) _
  refine lv_iconst (v := 0) fx.1 fx.2.1 dX6_hangingLoads_0 (by decide) ?_
  refine lv_istore_n (lv' := [(1, .int (0 : Int32)), (0, .ref x0)]) fx.1 fx.2.1 dX6_hangingLoads_1 rfl hl (by decide) rfl (fun ls hl => ?_)
  refine lv_iconst (v := 0) fx.1 fx.2.1 dX6_hangingLoads_2 (by decide) ?_
  refine lv_istore_n (lv' := [(2, .int (0 : Int32)), (1, .int (0 : Int32)), (0, .ref x0)]) fx.1 fx.2.1 dX6_hangingLoads_3 rfl hl (by decide) rfl (fun ls hl => ?_)
  refine w_l_X6_hangingLoads_4 fx n x0 h0 G ?_ n (0 : Int32) (0 : Int32)  _ _ _  hw (lv_sub hl [2, 1, 0] rfl) (gOk_bindK hok)
  intro z5  H locs ls hw hl hok
  have hok : gOk (ρ := Int32) (some (z5)) _ := hok
  refine lv_iload_n fx.1 fx.2.1 dX6_hangingLoads_30 rfl (lv_at hl 0 rfl) ?_
  cases gOk_some hok
  exact g_iret fx hw hr dX6_hangingLoads_31
theorem dX9_price_0 : decode cX9_price 0 = .ok (.aload_n 0, 1) := by decide +kernel
theorem dX9_price_1 : decode cX9_price 1 = .ok (.getfield 7, 3) := by decide +kernel
theorem dX9_price_4 : decode cX9_price 4 = .ok (.iconst 3, 1) := by decide +kernel
theorem dX9_price_5 : decode cX9_price 5 = .ok (.imul, 1) := by decide +kernel
theorem dX9_price_6 : decode cX9_price 6 = .ok (.aload_n 0, 1) := by decide +kernel
theorem dX9_price_7 : decode cX9_price 7 = .ok (.getfield 16, 3) := by decide +kernel
theorem dX9_price_10 : decode cX9_price 10 = .ok (.iconst 2, 1) := by decide +kernel
theorem dX9_price_11 : decode cX9_price 11 = .ok (.imul, 1) := by decide +kernel
theorem dX9_price_12 : decode cX9_price 12 = .ok (.isub, 1) := by decide +kernel
theorem dX9_price_13 : decode cX9_price 13 = .ok (.iconst 0, 1) := by decide +kernel
theorem dX9_price_14 : decode cX9_price 14 = .ok (.invokestatic 22, 3) := by decide +kernel
theorem dX9_price_17 : decode cX9_price 17 = .ok (.aload_n 0, 1) := by decide +kernel
theorem dX9_price_18 : decode cX9_price 18 = .ok (.getfield 19, 3) := by decide +kernel
theorem dX9_price_21 : decode cX9_price 21 = .ok (.iadd, 1) := by decide +kernel
theorem dX9_price_22 : decode cX9_price 22 = .ok (.ireturn, 1) := by decide +kernel
theorem lm_RX9_22 : Cond.methodLink RX9 22 Lib.Math.max.name ∈ wA := wA_t (wt2 (List.mem_of_getElem? (i := 232) (by decide +kernel))) (by decide +kernel)
def rm_X9_price : Room := { frames := 1, cells := 0, slots := 0, locals := 21 }
def f_X9_price (x0 : Nat) (G : gG) : Option (Int32) :=
  some ((gmax (((gi G 9 0 x0) * (3 : Int32)) - ((gi G 9 2 x0) * (2 : Int32))) (0 : Int32)) + (gi G 9 3 x0))
set_option maxHeartbeats 4000000 in
set_option maxRecDepth 100000 in
theorem c_X9_price (l : Launch) (X : gX) (τ : gτ) (x0 : Nat) (G : gG) (h0 : gK τ x0 9) {r : Int32}  (h : f_X9_price x0 G = some r) : gM l X τ yX9_price cX9_price 1 (some .int) rm_X9_price [.ref x0] G (some (.int r)) G := by
  refine g_body (by decide +kernel) (Nat.le_of_ble_eq_true rfl) ?_
  intro p e s m args below meth c ls fx hr hw hl
  have fx : gFx X p s m args meth c cX9_price 1 RX9 := fx
  have hl : lv_has ls 1 [(0, .ref x0)] := hl
  have hok : gOk (f_X9_price x0 G) (fun q => q = r) := ⟨_, h, rfl⟩
  unfold f_X9_price at hok
  show W p l e rm_X9_price s m args below meth c s.heap [] 0 0 (MQ below (gQ X τ (some (.int r)) G) args s 0 0 (gFree X)) _
  refine lv_aload_n fx.1 fx.2.1 dX9_price_0 rfl (lv_at hl 0 rfl) ?_
  refine g_geti fx hw h0 lf_RX9_7 rfl dX9_price_1 ?_
  refine lv_iconst (v := 3) fx.1 fx.2.1 dX9_price_4 (by decide) ?_
  refine lv_imul fx.1 fx.2.1 dX9_price_5 ?_
  refine lv_aload_n fx.1 fx.2.1 dX9_price_6 rfl (lv_at hl 0 rfl) ?_
  refine g_geti fx hw h0 lf_RX9_16 rfl dX9_price_7 ?_
  refine lv_iconst (v := 2) fx.1 fx.2.1 dX9_price_10 (by decide) ?_
  refine lv_imul fx.1 fx.2.1 dX9_price_11 ?_
  refine lv_isub fx.1 fx.2.1 dX9_price_12 ?_
  refine lv_iconst (v := 0) fx.1 fx.2.1 dX9_price_13 (by decide) ?_
  refine g_mmax fx hl.1 lm_RX9_22 lmst_max lm_init lmco_max ⟨Nat.le_of_ble_eq_true rfl, Nat.le_of_ble_eq_true rfl, Nat.le_of_ble_eq_true rfl, Nat.le_of_ble_eq_true rfl⟩ dX9_price_14 ?_
  refine lv_aload_n fx.1 fx.2.1 dX9_price_17 rfl (lv_at hl 0 rfl) ?_
  refine g_geti fx hw h0 lf_RX9_19 rfl dX9_price_18 ?_
  refine lv_iadd fx.1 fx.2.1 dX9_price_21 ?_
  cases gOk_some hok
  exact g_iret fx hw hr dX9_price_22
theorem dX6_priceOf_0 : decode cX6_priceOf 0 = .ok (.aload_n 1, 1) := by decide +kernel
theorem dX6_priceOf_1 : decode cX6_priceOf 1 = .ok (.getfield 135, 3) := by decide +kernel
theorem dX6_priceOf_4 : decode cX6_priceOf 4 = .ok (.ifCond .eq 5, 3) := by decide +kernel
theorem dX6_priceOf_7 : decode cX6_priceOf 7 = .ok (.iconst 0, 1) := by decide +kernel
theorem dX6_priceOf_8 : decode cX6_priceOf 8 = .ok (.ireturn, 1) := by decide +kernel
theorem dX6_priceOf_9 : decode cX6_priceOf 9 = .ok (.aload_n 0, 1) := by decide +kernel
theorem dX6_priceOf_10 : decode cX6_priceOf 10 = .ok (.aload_n 1, 1) := by decide +kernel
theorem dX6_priceOf_11 : decode cX6_priceOf 11 = .ok (.getfield 126, 3) := by decide +kernel
theorem dX6_priceOf_14 : decode cX6_priceOf 14 = .ok (.invokevirtual 98, 3) := by decide +kernel
theorem dX6_priceOf_17 : decode cX6_priceOf 17 = .ok (.invokevirtual 138, 3) := by decide +kernel
theorem dX6_priceOf_20 : decode cX6_priceOf 20 = .ok (.aload_n 0, 1) := by decide +kernel
theorem dX6_priceOf_21 : decode cX6_priceOf 21 = .ok (.aload_n 1, 1) := by decide +kernel
theorem dX6_priceOf_22 : decode cX6_priceOf 22 = .ok (.getfield 129, 3) := by decide +kernel
theorem dX6_priceOf_25 : decode cX6_priceOf 25 = .ok (.invokevirtual 98, 3) := by decide +kernel
theorem dX6_priceOf_28 : decode cX6_priceOf 28 = .ok (.invokevirtual 138, 3) := by decide +kernel
theorem dX6_priceOf_31 : decode cX6_priceOf 31 = .ok (.iadd, 1) := by decide +kernel
theorem dX6_priceOf_32 : decode cX6_priceOf 32 = .ok (.aload_n 0, 1) := by decide +kernel
theorem dX6_priceOf_33 : decode cX6_priceOf 33 = .ok (.aload_n 1, 1) := by decide +kernel
theorem dX6_priceOf_34 : decode cX6_priceOf 34 = .ok (.getfield 132, 3) := by decide +kernel
theorem dX6_priceOf_37 : decode cX6_priceOf 37 = .ok (.invokevirtual 98, 3) := by decide +kernel
theorem dX6_priceOf_40 : decode cX6_priceOf 40 = .ok (.invokevirtual 138, 3) := by decide +kernel
theorem dX6_priceOf_43 : decode cX6_priceOf 43 = .ok (.iadd, 1) := by decide +kernel
theorem dX6_priceOf_44 : decode cX6_priceOf 44 = .ok (.istore_n 2, 1) := by decide +kernel
theorem dX6_priceOf_45 : decode cX6_priceOf 45 = .ok (.iload_n 2, 1) := by decide +kernel
theorem dX6_priceOf_46 : decode cX6_priceOf 46 = .ok (.aload_n 1, 1) := by decide +kernel
theorem dX6_priceOf_47 : decode cX6_priceOf 47 = .ok (.getfield 116, 3) := by decide +kernel
theorem dX6_priceOf_50 : decode cX6_priceOf 50 = .ok (.imul, 1) := by decide +kernel
theorem dX6_priceOf_51 : decode cX6_priceOf 51 = .ok (.bipush 10, 2) := by decide +kernel
theorem dX6_priceOf_53 : decode cX6_priceOf 53 = .ok (.idiv, 1) := by decide +kernel
theorem dX6_priceOf_54 : decode cX6_priceOf 54 = .ok (.ireturn, 1) := by decide +kernel
theorem lv_RX6_138 : gLv RX6 138 RX9 yX9_price cX9_price 1 (some .int) 0 := gLv_of (wA_t (wt5 (List.mem_of_getElem? (i := 70) (by decide +kernel))) (by decide +kernel)) (wA_t (wt5 (List.mem_of_getElem? (i := 23) (by decide +kernel))) (by decide +kernel)) (wA_t (wt5 (List.mem_of_getElem? (i := 24) (by decide +kernel))) (by decide +kernel)) (wA_t (wt1 (List.mem_of_getElem? (i := 8) (by decide +kernel))) (by decide +kernel)) (wA_t (wt5 (List.mem_of_getElem? (i := 25) (by decide +kernel))) (by decide +kernel)) ⟨rfl, by decide +kernel, by decide +kernel, by decide +kernel⟩
def rm_X6_priceOf : Room := { frames := 2, cells := 0, slots := 0, locals := 41 }
def f_X6_priceOf (τ : gτ) (x0 : Nat) (x1 : Nat) (G : gG) : Option (Int32) :=
  if (gi G 5 9 x1) = 0 then ((f_X6_yarnAt τ x0 (gi G 5 0 x1) G).bind fun a1 =>
  gchk (gkd τ a1 9) <|
  (f_X9_price a1 G).bind fun v2 =>
  (f_X6_yarnAt τ x0 (gi G 5 1 x1) G).bind fun a3 =>
  gchk (gkd τ a3 9) <|
  (f_X9_price a3 G).bind fun v4 =>
  (f_X6_yarnAt τ x0 (gi G 5 2 x1) G).bind fun a5 =>
  gchk (gkd τ a5 9) <|
  (f_X9_price a5 G).bind fun v6 =>
  gLet ((v2 + v4) + v6) fun v7 =>
  some ((v7 * (gi G 5 3 x1)) / (10 : Int32)))
  else (some (0))
set_option maxHeartbeats 4000000 in
set_option maxRecDepth 100000 in
theorem c_X6_priceOf (l : Launch) (X : gX) (τ : gτ) (x0 : Nat) (x1 : Nat) (G : gG) (h0 : gK τ x0 6) (h1 : gK τ x1 5) {r : Int32}  (h : f_X6_priceOf τ x0 x1 G = some r) : gM l X τ yX6_priceOf cX6_priceOf 3 (some .int) rm_X6_priceOf [.ref x0, .ref x1] G (some (.int r)) G := by
  refine g_body (by decide +kernel) (Nat.le_of_ble_eq_true rfl) ?_
  intro p e s m args below meth c ls fx hr hw hl
  have fx : gFx X p s m args meth c cX6_priceOf 3 RX6 := fx
  have hl : lv_has ls 3 [(0, .ref x0), (1, .ref x1)] := hl
  have hok : gOk (f_X6_priceOf τ x0 x1 G) (fun q => q = r) := ⟨_, h, rfl⟩
  unfold f_X6_priceOf at hok
  show W p l e rm_X6_priceOf s m args below meth c s.heap [] 0 0 (MQ below (gQ X τ (some (.int r)) G) args s 0 0 (gFree X)) _
  refine lv_aload_n fx.1 fx.2.1 dX6_priceOf_0 rfl (lv_at hl 1 rfl) ?_
  refine g_geti fx hw h1 lf_RX6_135 rfl dX6_priceOf_1 ?_
  refine g_if_eq (tgt := 9) fx dX6_priceOf_4 (by decide) hok (fun hok => ?_) (fun hok => ?_)
  · refine lv_aload_n fx.1 fx.2.1 dX6_priceOf_9 rfl (lv_at hl 0 rfl) ?_
    refine lv_aload_n fx.1 fx.2.1 dX6_priceOf_10 rfl (lv_at hl 1 rfl) ?_
    refine g_geti fx hw h1 lf_RX6_126 rfl dX6_priceOf_11 ?_
    obtain ⟨a1, hf, hok⟩ := gOk_bind hok
    refine g_callV0 (κ := 6) fx hw (c_X6_yarnAt l X τ x0 (gi G 5 0 x1) G h0 hf) lv_RX6_98 ⟨rfl, rfl⟩ rfl rfl h0 rfl hl.1 rfl ⟨Nat.le_of_ble_eq_true rfl, Nat.le_of_ble_eq_true rfl⟩ (Nat.le_of_ble_eq_true rfl) ⟨Nat.le_of_ble_eq_true rfl, Nat.le_of_ble_eq_true rfl⟩ dX6_priceOf_14 (fun H locs hw => ?_)
    obtain ⟨h_a1, hok⟩ := gOk_chk hok
    have h_a1 : gK τ a1 9 := gkd_K h_a1
    obtain ⟨v2, hf, hok⟩ := gOk_bind hok
    refine g_callV0 (κ := 9) fx hw (c_X9_price l X τ a1 G h_a1 hf) lv_RX6_138 ⟨rfl, rfl⟩ rfl rfl h_a1 rfl hl.1 rfl ⟨Nat.le_of_ble_eq_true rfl, Nat.le_of_ble_eq_true rfl⟩ (Nat.le_of_ble_eq_true rfl) ⟨Nat.le_of_ble_eq_true rfl, Nat.le_of_ble_eq_true rfl⟩ dX6_priceOf_17 (fun H locs hw => ?_)
    refine lv_aload_n fx.1 fx.2.1 dX6_priceOf_20 rfl (lv_at hl 0 rfl) ?_
    refine lv_aload_n fx.1 fx.2.1 dX6_priceOf_21 rfl (lv_at hl 1 rfl) ?_
    refine g_geti fx hw h1 lf_RX6_129 rfl dX6_priceOf_22 ?_
    obtain ⟨a3, hf, hok⟩ := gOk_bind hok
    refine g_callV0 (κ := 6) fx hw (c_X6_yarnAt l X τ x0 (gi G 5 1 x1) G h0 hf) lv_RX6_98 ⟨rfl, rfl⟩ rfl rfl h0 rfl hl.1 rfl ⟨Nat.le_of_ble_eq_true rfl, Nat.le_of_ble_eq_true rfl⟩ (Nat.le_of_ble_eq_true rfl) ⟨Nat.le_of_ble_eq_true rfl, Nat.le_of_ble_eq_true rfl⟩ dX6_priceOf_25 (fun H locs hw => ?_)
    obtain ⟨h_a3, hok⟩ := gOk_chk hok
    have h_a3 : gK τ a3 9 := gkd_K h_a3
    obtain ⟨v4, hf, hok⟩ := gOk_bind hok
    refine g_callV0 (κ := 9) fx hw (c_X9_price l X τ a3 G h_a3 hf) lv_RX6_138 ⟨rfl, rfl⟩ rfl rfl h_a3 rfl hl.1 rfl ⟨Nat.le_of_ble_eq_true rfl, Nat.le_of_ble_eq_true rfl⟩ (Nat.le_of_ble_eq_true rfl) ⟨Nat.le_of_ble_eq_true rfl, Nat.le_of_ble_eq_true rfl⟩ dX6_priceOf_28 (fun H locs hw => ?_)
    refine lv_iadd fx.1 fx.2.1 dX6_priceOf_31 ?_
    refine lv_aload_n fx.1 fx.2.1 dX6_priceOf_32 rfl (lv_at hl 0 rfl) ?_
    refine lv_aload_n fx.1 fx.2.1 dX6_priceOf_33 rfl (lv_at hl 1 rfl) ?_
    refine g_geti fx hw h1 lf_RX6_132 rfl dX6_priceOf_34 ?_
    obtain ⟨a5, hf, hok⟩ := gOk_bind hok
    refine g_callV0 (κ := 6) fx hw (c_X6_yarnAt l X τ x0 (gi G 5 2 x1) G h0 hf) lv_RX6_98 ⟨rfl, rfl⟩ rfl rfl h0 rfl hl.1 rfl ⟨Nat.le_of_ble_eq_true rfl, Nat.le_of_ble_eq_true rfl⟩ (Nat.le_of_ble_eq_true rfl) ⟨Nat.le_of_ble_eq_true rfl, Nat.le_of_ble_eq_true rfl⟩ dX6_priceOf_37 (fun H locs hw => ?_)
    obtain ⟨h_a5, hok⟩ := gOk_chk hok
    have h_a5 : gK τ a5 9 := gkd_K h_a5
    obtain ⟨v6, hf, hok⟩ := gOk_bind hok
    refine g_callV0 (κ := 9) fx hw (c_X9_price l X τ a5 G h_a5 hf) lv_RX6_138 ⟨rfl, rfl⟩ rfl rfl h_a5 rfl hl.1 rfl ⟨Nat.le_of_ble_eq_true rfl, Nat.le_of_ble_eq_true rfl⟩ (Nat.le_of_ble_eq_true rfl) ⟨Nat.le_of_ble_eq_true rfl, Nat.le_of_ble_eq_true rfl⟩ dX6_priceOf_40 (fun H locs hw => ?_)
    refine lv_iadd fx.1 fx.2.1 dX6_priceOf_43 ?_
    refine g_leti hok (fun v7 hok => ?_)
    refine lv_istore_n (lv' := [(2, .int v7), (0, .ref x0), (1, .ref x1)]) fx.1 fx.2.1 dX6_priceOf_44 rfl hl (by decide) rfl (fun ls hl => ?_)
    refine lv_iload_n fx.1 fx.2.1 dX6_priceOf_45 rfl (lv_at hl 0 rfl) ?_
    refine lv_aload_n fx.1 fx.2.1 dX6_priceOf_46 rfl (lv_at hl 2 rfl) ?_
    refine g_geti fx hw h1 lf_RX6_116 rfl dX6_priceOf_47 ?_
    refine lv_imul fx.1 fx.2.1 dX6_priceOf_50 ?_
    refine lv_bipush (v := 10) fx.1 fx.2.1 dX6_priceOf_51 (by decide) ?_
    refine lv_idiv fx.1 fx.2.1 dX6_priceOf_53 (by decide) ?_
    cases gOk_some hok
    exact g_iret fx hw hr dX6_priceOf_54
  · refine lv_iconst (v := 0) fx.1 fx.2.1 dX6_priceOf_7 (by decide) ?_
    cases gOk_some hok
    exact g_iret fx hw hr dX6_priceOf_8
theorem dX6_pricesOf_0 : decode cX6_pricesOf 0 = .ok (.iconst 0, 1) := by decide +kernel
theorem dX6_pricesOf_1 : decode cX6_pricesOf 1 = .ok (.istore_n 2, 1) := by decide +kernel
theorem dX6_pricesOf_2 : decode cX6_pricesOf 2 = .ok (.iconst 0, 1) := by decide +kernel
theorem dX6_pricesOf_3 : decode cX6_pricesOf 3 = .ok (.istore_n 3, 1) := by decide +kernel
theorem dX6_pricesOf_4 : decode cX6_pricesOf 4 = .ok (.iload_n 3, 1) := by decide +kernel
theorem dX6_pricesOf_5 : decode cX6_pricesOf 5 = .ok (.aload_n 0, 1) := by decide +kernel
theorem dX6_pricesOf_6 : decode cX6_pricesOf 6 = .ok (.getfield 50, 3) := by decide +kernel
theorem dX6_pricesOf_9 : decode cX6_pricesOf 9 = .ok (.if_icmp .ge 31, 3) := by decide +kernel
theorem dX6_pricesOf_12 : decode cX6_pricesOf 12 = .ok (.iload_n 1, 1) := by decide +kernel
theorem dX6_pricesOf_13 : decode cX6_pricesOf 13 = .ok (.iload_n 3, 1) := by decide +kernel
theorem dX6_pricesOf_14 : decode cX6_pricesOf 14 = .ok (.ishr, 1) := by decide +kernel
theorem dX6_pricesOf_15 : decode cX6_pricesOf 15 = .ok (.iconst 1, 1) := by decide +kernel
theorem dX6_pricesOf_16 : decode cX6_pricesOf 16 = .ok (.iand, 1) := by decide +kernel
theorem dX6_pricesOf_17 : decode cX6_pricesOf 17 = .ok (.iconst 1, 1) := by decide +kernel
theorem dX6_pricesOf_18 : decode cX6_pricesOf 18 = .ok (.if_icmp .ne 16, 3) := by decide +kernel
theorem dX6_pricesOf_21 : decode cX6_pricesOf 21 = .ok (.iload_n 2, 1) := by decide +kernel
theorem dX6_pricesOf_22 : decode cX6_pricesOf 22 = .ok (.aload_n 0, 1) := by decide +kernel
theorem dX6_pricesOf_23 : decode cX6_pricesOf 23 = .ok (.aload_n 0, 1) := by decide +kernel
theorem dX6_pricesOf_24 : decode cX6_pricesOf 24 = .ok (.getfield 19, 3) := by decide +kernel
theorem dX6_pricesOf_27 : decode cX6_pricesOf 27 = .ok (.iload_n 3, 1) := by decide +kernel
theorem dX6_pricesOf_28 : decode cX6_pricesOf 28 = .ok (.aaload, 1) := by decide +kernel
theorem dX6_pricesOf_29 : decode cX6_pricesOf 29 = .ok (.invokevirtual 142, 3) := by decide +kernel
theorem dX6_pricesOf_32 : decode cX6_pricesOf 32 = .ok (.iadd, 1) := by decide +kernel
theorem dX6_pricesOf_33 : decode cX6_pricesOf 33 = .ok (.istore_n 2, 1) := by decide +kernel
theorem dX6_pricesOf_34 : decode cX6_pricesOf 34 = .ok (.iinc 3 1, 3) := by decide +kernel
theorem dX6_pricesOf_37 : decode cX6_pricesOf 37 = .ok (.goto (-33), 3) := by decide +kernel
theorem dX6_pricesOf_40 : decode cX6_pricesOf 40 = .ok (.iload_n 2, 1) := by decide +kernel
theorem dX6_pricesOf_41 : decode cX6_pricesOf 41 = .ok (.ireturn, 1) := by decide +kernel
theorem lv_RX6_142 : gLv RX6 142 RX6 yX6_priceOf cX6_priceOf 3 (some .int) 1 := gLv_of (wA_t (wt6 (List.mem_of_getElem? (i := 145) (by decide +kernel))) (by decide +kernel)) (wA_t (wt5 (List.mem_of_getElem? (i := 67) (by decide +kernel))) (by decide +kernel)) (wA_t (wt5 (List.mem_of_getElem? (i := 68) (by decide +kernel))) (by decide +kernel)) (wA_t (wt1 (List.mem_of_getElem? (i := 6) (by decide +kernel))) (by decide +kernel)) (wA_t (wt5 (List.mem_of_getElem? (i := 69) (by decide +kernel))) (by decide +kernel)) ⟨rfl, by decide +kernel, by decide +kernel, by decide +kernel⟩
def rm_X6_pricesOf : Room := { frames := 3, cells := 0, slots := 0, locals := 63 }
def b_X6_pricesOf_4 (τ : gτ) (n : Nat) (x0 : Nat) (x1 : Int32) (x2 : Int32) (x3 : Int32) (G : gG) : Option ((Int32 × Int32) ⊕ ((Int32))) :=
  if (gi G 6 5 x0) ≤ x3 then (some (.inr x2))
  else (if ((x1 >>> (x3 &&& 31)) &&& (1 : Int32)) = (1 : Int32) then ((gr G 6 1 x0).bind fun a1 =>
  gchk (gIn x3 (gn τ a1)) <| (gq G a1 (Int32.toNatClampNeg x3)).bind fun a2 =>
  (f_X6_priceOf τ x0 a2 G).bind fun v3 =>
  gLet (x2 + v3) fun v4 =>
  gLet (x3 + 1) fun v5 =>
  some (.inl (v4, v5)))
  else (gLet (x3 + 1) fun v6 =>
  some (.inl (x2, v6))))
def l_X6_pricesOf_4 (τ : gτ) (n : Nat) (x0 : Nat) (x1 : Int32) (x2 : Int32) (x3 : Int32) (G : gG) : Option ((Int32)) :=
  gIter (fun (q : Int32 × Int32) => b_X6_pricesOf_4 τ n x0 x1 q.1 q.2 G) n (x2, x3)
def f_X6_pricesOf (τ : gτ) (n : Nat) (x0 : Nat) (x1 : Int32) (G : gG) : Option (Int32) :=
  (l_X6_pricesOf_4 τ n x0 x1 (0 : Int32) (0 : Int32) G).bind fun q => gLet q fun z7 => 
  some (z7)
set_option maxHeartbeats 4000000 in
set_option maxRecDepth 100000 in
theorem w_b_X6_pricesOf_4 {X : gX} {τ : gτ} {p : Program} {l : Launch} {e : Env} {s : State} {m : MethodId} {args : Array Value} {below : List Frame} {meth : Method} {c : Code} (fx : gFx X p s m args meth c cX6_pricesOf 4 RX6) (n : Nat) (x0 : Nat) (x1 : Int32) (x2 : Int32) (x3 : Int32) (h0 : gK τ x0 6) {Q : State → Prop} {K : ((Int32 × Int32) ⊕ ((Int32))) → Prop} {G : gG} {H : Heap} {locs : List Loc} {ls : Array Slot} (hw : gHw X τ G H locs) (hl : lv_has ls 4 [(0, .ref x0), (1, .int x1), (2, .int x2), (3, .int x3)]) (hok : gOk (b_X6_pricesOf_4 τ n x0 x1 x2 x3 G) K) (hc : ∀ (y2 : Int32) (y3 : Int32) (H : Heap) (locs : List Loc) (ls : Array Slot), gHw X τ G H locs → lv_has ls 4 [(0, .ref x0), (1, .int x1), (2, .int y2), (3, .int y3)] → K (.inl (y2, y3)) → W p l e rm_X6_pricesOf s m args below meth c H locs 0 0 Q (F0 m 4 ls [])) (hx0 : ∀ (y2 : Int32) (H : Heap) (locs : List Loc) (ls : Array Slot), gHw X τ G H locs → lv_has ls 4 [(2, .int y2)] → K (.inr y2) → W p l e rm_X6_pricesOf s m args below meth c H locs 0 0 Q (F0 m 40 ls [])) : W p l e rm_X6_pricesOf s m args below meth c H locs 0 0 Q (F0 m 4 ls []) := by
  unfold b_X6_pricesOf_4 at hok
  refine lv_iload_n fx.1 fx.2.1 dX6_pricesOf_4 rfl (lv_at hl 3 rfl) ?_
  refine lv_aload_n fx.1 fx.2.1 dX6_pricesOf_5 rfl (lv_at hl 0 rfl) ?_
  refine g_geti fx hw h0 lf_RX6_50 rfl dX6_pricesOf_6 ?_
  refine g_icmp_ge (tgt := 40) fx dX6_pricesOf_9 (by decide) hok (fun hok => ?_) (fun hok => ?_)
  · exact hx0 x2  _ _ _  hw (lv_sub hl [2] rfl) (gOk_some hok)
  · refine lv_iload_n fx.1 fx.2.1 dX6_pricesOf_12 rfl (lv_at hl 1 rfl) ?_
    refine lv_iload_n fx.1 fx.2.1 dX6_pricesOf_13 rfl (lv_at hl 3 rfl) ?_
    refine lv_ishr fx.1 fx.2.1 dX6_pricesOf_14 ?_
    refine lv_iconst (v := 1) fx.1 fx.2.1 dX6_pricesOf_15 (by decide) ?_
    refine lv_iand fx.1 fx.2.1 dX6_pricesOf_16 ?_
    refine lv_iconst (v := 1) fx.1 fx.2.1 dX6_pricesOf_17 (by decide) ?_
    refine g_icmp_ne (tgt := 34) fx dX6_pricesOf_18 (by decide) hok (fun hok => ?_) (fun hok => ?_)
    · refine lv_iload_n fx.1 fx.2.1 dX6_pricesOf_21 rfl (lv_at hl 2 rfl) ?_
      refine lv_aload_n fx.1 fx.2.1 dX6_pricesOf_22 rfl (lv_at hl 0 rfl) ?_
      refine lv_aload_n fx.1 fx.2.1 dX6_pricesOf_23 rfl (lv_at hl 0 rfl) ?_
      refine g_getr fx hw h0 lf_RX6_19 rfl dX6_pricesOf_24 hok (fun a1 h_a1 hok => ?_)
      refine lv_iload_n fx.1 fx.2.1 dX6_pricesOf_27 rfl (lv_at hl 3 rfl) ?_
      refine g_aald fx hw 15 3 h_a1 (by decide) (by decide) rfl (κ' := 5) rfl dX6_pricesOf_28 hok (fun a2 h_a2 hok => ?_)
      obtain ⟨v3, hf, hok⟩ := gOk_bind hok
      refine g_callV0 (κ := 6) fx hw (c_X6_priceOf l X τ x0 a2 G h0 h_a2 hf) lv_RX6_142 ⟨rfl, rfl⟩ rfl rfl h0 rfl hl.1 rfl ⟨Nat.le_of_ble_eq_true rfl, Nat.le_of_ble_eq_true rfl⟩ (Nat.le_of_ble_eq_true rfl) ⟨Nat.le_of_ble_eq_true rfl, Nat.le_of_ble_eq_true rfl⟩ dX6_pricesOf_29 (fun H locs hw => ?_)
      refine lv_iadd fx.1 fx.2.1 dX6_pricesOf_32 ?_
      refine g_leti hok (fun v4 hok => ?_)
      refine lv_istore_n (lv' := [(2, .int v4), (0, .ref x0), (1, .int x1), (3, .int x3)]) fx.1 fx.2.1 dX6_pricesOf_33 rfl hl (by decide) rfl (fun ls hl => ?_)
      obtain ⟨v5, e_v5, hok⟩ := gOk_let hok
      refine lv_iinc (v := v5) (lv' := [(3, .int v5), (2, .int v4), (0, .ref x0), (1, .int x1)]) fx.1 fx.2.1 dX6_pricesOf_34 hl (k := 3) rfl (by rw [e_v5]; rfl) (by decide) rfl (fun ls hl => ?_)
      refine lv_goto (tgt := 4) fx.1 fx.2.1 dX6_pricesOf_37 (by decide) ?_
      exact hc v4 v5  _ _ _  hw (lv_sub hl [2, 3, 1, 0] rfl) (gOk_some hok)
    · obtain ⟨v6, e_v6, hok⟩ := gOk_let hok
      refine lv_iinc (v := v6) (lv' := [(3, .int v6), (0, .ref x0), (1, .int x1), (2, .int x2)]) fx.1 fx.2.1 dX6_pricesOf_34 hl (k := 3) rfl (by rw [e_v6]; rfl) (by decide) rfl (fun ls hl => ?_)
      refine lv_goto (tgt := 4) fx.1 fx.2.1 dX6_pricesOf_37 (by decide) ?_
      exact hc x2 v6  _ _ _  hw (lv_sub hl [1, 2, 3, 0] rfl) (gOk_some hok)
theorem w_l_X6_pricesOf_4 {X : gX} {τ : gτ} {p : Program} {l : Launch} {e : Env} {s : State} {m : MethodId} {args : Array Value} {below : List Frame} {meth : Method} {c : Code} (fx : gFx X p s m args meth c cX6_pricesOf 4 RX6) (n : Nat) (x0 : Nat) (x1 : Int32) (h0 : gK τ x0 6) (G : gG) {Q : State → Prop} {K : ((Int32)) → Prop} (hx0 : ∀ (y2 : Int32) (H : Heap) (locs : List Loc) (ls : Array Slot), gHw X τ G H locs → lv_has ls 4 [(2, .int y2)] → K y2 → W p l e rm_X6_pricesOf s m args below meth c H locs 0 0 Q (F0 m 40 ls [])) : ∀ (k : Nat) (x2 : Int32) (x3 : Int32) (H : Heap) (locs : List Loc) (ls : Array Slot), gHw X τ G H locs → lv_has ls 4 [(0, .ref x0), (1, .int x1), (2, .int x2), (3, .int x3)] → gOk (gIter (fun (q : Int32 × Int32) => b_X6_pricesOf_4 τ n x0 x1 q.1 q.2 G) k (x2, x3)) K → W p l e rm_X6_pricesOf s m args below meth c H locs 0 0 Q (F0 m 4 ls []) := by
  intro k
  induction k with
  | zero =>
    intro x2 x3  H locs ls hw hl hok
    exact gOk_iter0 hok
  | succ k hc =>
    intro x2 x3  H locs ls hw hl hok
    exact w_b_X6_pricesOf_4 fx n x0 x1 x2 x3 h0 hw hl (gOk_iter hok) hc hx0
set_option maxHeartbeats 4000000 in
set_option maxRecDepth 100000 in
theorem c_X6_pricesOf (l : Launch) (X : gX) (τ : gτ) (n : Nat) (x0 : Nat) (x1 : Int32) (G : gG) (h0 : gK τ x0 6) {r : Int32}  (h : f_X6_pricesOf τ n x0 x1 G = some r) : gM l X τ yX6_pricesOf cX6_pricesOf 4 (some .int) rm_X6_pricesOf [.ref x0, .int x1] G (some (.int r)) G := by
  refine g_body (by decide +kernel) (Nat.le_of_ble_eq_true rfl) ?_
  intro p e s m args below meth c ls fx hr hw hl
  have fx : gFx X p s m args meth c cX6_pricesOf 4 RX6 := fx
  have hl : lv_has ls 4 [(0, .ref x0), (1, .int x1)] := hl
  have hok : gOk (f_X6_pricesOf τ n x0 x1 G) (fun q => q = r) := ⟨_, h, rfl⟩
  unfold f_X6_pricesOf at hok
  show W p l e rm_X6_pricesOf s m args below meth c s.heap [] 0 0 (MQ below (gQ X τ (some (.int r)) G) args s 0 0 (gFree X)) _
  refine lv_iconst (v := 0) fx.1 fx.2.1 dX6_pricesOf_0 (by decide) ?_
  refine lv_istore_n (lv' := [(2, .int (0 : Int32)), (0, .ref x0), (1, .int x1)]) fx.1 fx.2.1 dX6_pricesOf_1 rfl hl (by decide) rfl (fun ls hl => ?_)
  refine lv_iconst (v := 0) fx.1 fx.2.1 dX6_pricesOf_2 (by decide) ?_
  refine lv_istore_n (lv' := [(3, .int (0 : Int32)), (2, .int (0 : Int32)), (0, .ref x0), (1, .int x1)]) fx.1 fx.2.1 dX6_pricesOf_3 rfl hl (by decide) rfl (fun ls hl => ?_)
  refine w_l_X6_pricesOf_4 fx n x0 x1 h0 G ?_ n (0 : Int32) (0 : Int32)  _ _ _  hw (lv_sub hl [2, 3, 1, 0] rfl) (gOk_bindK hok)
  intro z7  H locs ls hw hl hok
  have hok : gOk (ρ := Int32) (some (z7)) _ := hok
  refine lv_iload_n fx.1 fx.2.1 dX6_pricesOf_40 rfl (lv_at hl 0 rfl) ?_
  cases gOk_some hok
  exact g_iret fx hw hr dX6_pricesOf_41
theorem dX6_isWinter_0 : decode cX6_isWinter 0 = .ok (.aload_n 0, 1) := by decide +kernel
theorem dX6_isWinter_1 : decode cX6_isWinter 1 = .ok (.getfield 74, 3) := by decide +kernel
theorem dX6_isWinter_4 : decode cX6_isWinter 4 = .ok (.iconst 4, 1) := by decide +kernel
theorem dX6_isWinter_5 : decode cX6_isWinter 5 = .ok (.irem, 1) := by decide +kernel
theorem dX6_isWinter_6 : decode cX6_isWinter 6 = .ok (.iconst 3, 1) := by decide +kernel
theorem dX6_isWinter_7 : decode cX6_isWinter 7 = .ok (.if_icmp .ne 7, 3) := by decide +kernel
theorem dX6_isWinter_10 : decode cX6_isWinter 10 = .ok (.iconst 1, 1) := by decide +kernel
theorem dX6_isWinter_11 : decode cX6_isWinter 11 = .ok (.goto 4, 3) := by decide +kernel
theorem dX6_isWinter_14 : decode cX6_isWinter 14 = .ok (.iconst 0, 1) := by decide +kernel
theorem dX6_isWinter_15 : decode cX6_isWinter 15 = .ok (.ireturn, 1) := by decide +kernel
def rm_X6_isWinter : Room := { frames := 0, cells := 0, slots := 0, locals := 0 }
def f_X6_isWinter (x0 : Nat) (G : gG) : Option (Int32) :=
  if ((gi G 6 10 x0) - (gi G 6 10 x0) / (4 : Int32) * (4 : Int32)) = (3 : Int32) then (some (1))
  else (some (0))
set_option maxHeartbeats 4000000 in
set_option maxRecDepth 100000 in
theorem c_X6_isWinter (l : Launch) (X : gX) (τ : gτ) (x0 : Nat) (G : gG) (h0 : gK τ x0 6) {r : Int32}  (h : f_X6_isWinter x0 G = some r) : gM l X τ yX6_isWinter cX6_isWinter 1 (some .boolean) rm_X6_isWinter [.ref x0] G (some (.int r)) G := by
  refine g_body (by decide +kernel) (Nat.le_of_ble_eq_true rfl) ?_
  intro p e s m args below meth c ls fx hr hw hl
  have fx : gFx X p s m args meth c cX6_isWinter 1 RX6 := fx
  have hl : lv_has ls 1 [(0, .ref x0)] := hl
  have hok : gOk (f_X6_isWinter x0 G) (fun q => q = r) := ⟨_, h, rfl⟩
  unfold f_X6_isWinter at hok
  show W p l e rm_X6_isWinter s m args below meth c s.heap [] 0 0 (MQ below (gQ X τ (some (.int r)) G) args s 0 0 (gFree X)) _
  refine lv_aload_n fx.1 fx.2.1 dX6_isWinter_0 rfl (lv_at hl 0 rfl) ?_
  refine g_geti fx hw h0 lf_RX6_74 rfl dX6_isWinter_1 ?_
  refine lv_iconst (v := 4) fx.1 fx.2.1 dX6_isWinter_4 (by decide) ?_
  refine lv_irem fx.1 fx.2.1 dX6_isWinter_5 (by decide) ?_
  refine lv_iconst (v := 3) fx.1 fx.2.1 dX6_isWinter_6 (by decide) ?_
  refine g_icmp_ne (tgt := 14) fx dX6_isWinter_7 (by decide) hok (fun hok => ?_) (fun hok => ?_)
  · refine lv_iconst (v := 1) fx.1 fx.2.1 dX6_isWinter_10 (by decide) ?_
    refine lv_goto (tgt := 15) fx.1 fx.2.1 dX6_isWinter_11 (by decide) ?_
    cases gOk_some hok
    exact g_zret fx hw hr (by decide) dX6_isWinter_15
  · refine lv_iconst (v := 0) fx.1 fx.2.1 dX6_isWinter_14 (by decide) ?_
    cases gOk_some hok
    exact g_zret fx hw hr (by decide) dX6_isWinter_15
theorem dX9_soundness_0 : decode cX9_soundness 0 = .ok (.aload_n 0, 1) := by decide +kernel
theorem dX9_soundness_1 : decode cX9_soundness 1 = .ok (.getfield 7, 3) := by decide +kernel
theorem dX9_soundness_4 : decode cX9_soundness 4 = .ok (.aload_n 0, 1) := by decide +kernel
theorem dX9_soundness_5 : decode cX9_soundness 5 = .ok (.getfield 16, 3) := by decide +kernel
theorem dX9_soundness_8 : decode cX9_soundness 8 = .ok (.isub, 1) := by decide +kernel
theorem dX9_soundness_9 : decode cX9_soundness 9 = .ok (.iconst 0, 1) := by decide +kernel
theorem dX9_soundness_10 : decode cX9_soundness 10 = .ok (.invokestatic 22, 3) := by decide +kernel
theorem dX9_soundness_13 : decode cX9_soundness 13 = .ok (.ireturn, 1) := by decide +kernel
def rm_X9_soundness : Room := { frames := 1, cells := 0, slots := 0, locals := 21 }
def f_X9_soundness (x0 : Nat) (G : gG) : Option (Int32) :=
  some (gmax ((gi G 9 0 x0) - (gi G 9 2 x0)) (0 : Int32))
set_option maxHeartbeats 4000000 in
set_option maxRecDepth 100000 in
theorem c_X9_soundness (l : Launch) (X : gX) (τ : gτ) (x0 : Nat) (G : gG) (h0 : gK τ x0 9) {r : Int32}  (h : f_X9_soundness x0 G = some r) : gM l X τ yX9_soundness cX9_soundness 1 (some .int) rm_X9_soundness [.ref x0] G (some (.int r)) G := by
  refine g_body (by decide +kernel) (Nat.le_of_ble_eq_true rfl) ?_
  intro p e s m args below meth c ls fx hr hw hl
  have fx : gFx X p s m args meth c cX9_soundness 1 RX9 := fx
  have hl : lv_has ls 1 [(0, .ref x0)] := hl
  have hok : gOk (f_X9_soundness x0 G) (fun q => q = r) := ⟨_, h, rfl⟩
  unfold f_X9_soundness at hok
  show W p l e rm_X9_soundness s m args below meth c s.heap [] 0 0 (MQ below (gQ X τ (some (.int r)) G) args s 0 0 (gFree X)) _
  refine lv_aload_n fx.1 fx.2.1 dX9_soundness_0 rfl (lv_at hl 0 rfl) ?_
  refine g_geti fx hw h0 lf_RX9_7 rfl dX9_soundness_1 ?_
  refine lv_aload_n fx.1 fx.2.1 dX9_soundness_4 rfl (lv_at hl 0 rfl) ?_
  refine g_geti fx hw h0 lf_RX9_16 rfl dX9_soundness_5 ?_
  refine lv_isub fx.1 fx.2.1 dX9_soundness_8 ?_
  refine lv_iconst (v := 0) fx.1 fx.2.1 dX9_soundness_9 (by decide) ?_
  refine g_mmax fx hl.1 lm_RX9_22 lmst_max lm_init lmco_max ⟨Nat.le_of_ble_eq_true rfl, Nat.le_of_ble_eq_true rfl, Nat.le_of_ble_eq_true rfl, Nat.le_of_ble_eq_true rfl⟩ dX9_soundness_10 ?_
  cases gOk_some hok
  exact g_iret fx hw hr dX9_soundness_13
theorem dX6_bearing_0 : decode cX6_bearing 0 = .ok (.aload_n 1, 1) := by decide +kernel
theorem dX6_bearing_1 : decode cX6_bearing 1 = .ok (.getfield 135, 3) := by decide +kernel
theorem dX6_bearing_4 : decode cX6_bearing 4 = .ok (.ifCond .eq 5, 3) := by decide +kernel
theorem dX6_bearing_7 : decode cX6_bearing 7 = .ok (.iconst 0, 1) := by decide +kernel
theorem dX6_bearing_8 : decode cX6_bearing 8 = .ok (.ireturn, 1) := by decide +kernel
theorem dX6_bearing_9 : decode cX6_bearing 9 = .ok (.aload_n 0, 1) := by decide +kernel
theorem dX6_bearing_10 : decode cX6_bearing 10 = .ok (.aload_n 1, 1) := by decide +kernel
theorem dX6_bearing_11 : decode cX6_bearing 11 = .ok (.getfield 126, 3) := by decide +kernel
theorem dX6_bearing_14 : decode cX6_bearing 14 = .ok (.invokevirtual 98, 3) := by decide +kernel
theorem dX6_bearing_17 : decode cX6_bearing 17 = .ok (.astore_n 3, 1) := by decide +kernel
theorem dX6_bearing_18 : decode cX6_bearing 18 = .ok (.aload_n 0, 1) := by decide +kernel
theorem dX6_bearing_19 : decode cX6_bearing 19 = .ok (.aload_n 1, 1) := by decide +kernel
theorem dX6_bearing_20 : decode cX6_bearing 20 = .ok (.getfield 129, 3) := by decide +kernel
theorem dX6_bearing_23 : decode cX6_bearing 23 = .ok (.invokevirtual 98, 3) := by decide +kernel
theorem dX6_bearing_26 : decode cX6_bearing 26 = .ok (.astore 4, 2) := by decide +kernel
theorem dX6_bearing_28 : decode cX6_bearing 28 = .ok (.aload_n 0, 1) := by decide +kernel
theorem dX6_bearing_29 : decode cX6_bearing 29 = .ok (.aload_n 1, 1) := by decide +kernel
theorem dX6_bearing_30 : decode cX6_bearing 30 = .ok (.getfield 132, 3) := by decide +kernel
theorem dX6_bearing_33 : decode cX6_bearing 33 = .ok (.invokevirtual 98, 3) := by decide +kernel
theorem dX6_bearing_36 : decode cX6_bearing 36 = .ok (.astore 5, 2) := by decide +kernel
theorem dX6_bearing_38 : decode cX6_bearing 38 = .ok (.aload_n 2, 1) := by decide +kernel
theorem dX6_bearing_39 : decode cX6_bearing 39 = .ok (.aload_n 1, 1) := by decide +kernel
theorem dX6_bearing_40 : decode cX6_bearing 40 = .ok (.aload_n 3, 1) := by decide +kernel
theorem dX6_bearing_41 : decode cX6_bearing 41 = .ok (.aload 4, 2) := by decide +kernel
theorem dX6_bearing_43 : decode cX6_bearing 43 = .ok (.aload 5, 2) := by decide +kernel
theorem dX6_bearing_45 : decode cX6_bearing 45 = .ok (.aload_n 0, 1) := by decide +kernel
theorem dX6_bearing_46 : decode cX6_bearing 46 = .ok (.invokevirtual 146, 3) := by decide +kernel
theorem dX6_bearing_49 : decode cX6_bearing 49 = .ok (.invokevirtual 150, 3) := by decide +kernel
theorem dX6_bearing_52 : decode cX6_bearing 52 = .ok (.aload_n 3, 1) := by decide +kernel
theorem dX6_bearing_53 : decode cX6_bearing 53 = .ok (.invokevirtual 156, 3) := by decide +kernel
theorem dX6_bearing_56 : decode cX6_bearing 56 = .ok (.aload 4, 2) := by decide +kernel
theorem dX6_bearing_58 : decode cX6_bearing 58 = .ok (.invokevirtual 156, 3) := by decide +kernel
theorem dX6_bearing_61 : decode cX6_bearing 61 = .ok (.iadd, 1) := by decide +kernel
theorem dX6_bearing_62 : decode cX6_bearing 62 = .ok (.aload 5, 2) := by decide +kernel
theorem dX6_bearing_64 : decode cX6_bearing 64 = .ok (.invokevirtual 156, 3) := by decide +kernel
theorem dX6_bearing_67 : decode cX6_bearing 67 = .ok (.iadd, 1) := by decide +kernel
theorem dX6_bearing_68 : decode cX6_bearing 68 = .ok (.aload_n 2, 1) := by decide +kernel
theorem dX6_bearing_69 : decode cX6_bearing 69 = .ok (.iconst 0, 1) := by decide +kernel
theorem dX6_bearing_70 : decode cX6_bearing 70 = .ok (.invokevirtual 159, 3) := by decide +kernel
theorem dX6_bearing_73 : decode cX6_bearing 73 = .ok (.iadd, 1) := by decide +kernel
theorem dX6_bearing_74 : decode cX6_bearing 74 = .ok (.aload_n 1, 1) := by decide +kernel
theorem dX6_bearing_75 : decode cX6_bearing 75 = .ok (.getfield 163, 3) := by decide +kernel
theorem dX6_bearing_78 : decode cX6_bearing 78 = .ok (.bipush 10, 2) := by decide +kernel
theorem dX6_bearing_80 : decode cX6_bearing 80 = .ok (.idiv, 1) := by decide +kernel
theorem dX6_bearing_81 : decode cX6_bearing 81 = .ok (.isub, 1) := by decide +kernel
theorem dX6_bearing_82 : decode cX6_bearing 82 = .ok (.istore 6, 2) := by decide +kernel
theorem dX6_bearing_84 : decode cX6_bearing 84 = .ok (.iload 6, 2) := by decide +kernel
theorem dX6_bearing_86 : decode cX6_bearing 86 = .ok (.iconst 0, 1) := by decide +kernel
theorem dX6_bearing_87 : decode cX6_bearing 87 = .ok (.invokestatic 166, 3) := by decide +kernel
theorem dX6_bearing_90 : decode cX6_bearing 90 = .ok (.aload_n 1, 1) := by decide +kernel
theorem dX6_bearing_91 : decode cX6_bearing 91 = .ok (.getfield 169, 3) := by decide +kernel
theorem dX6_bearing_94 : decode cX6_bearing 94 = .ok (.imul, 1) := by decide +kernel
theorem dX6_bearing_95 : decode cX6_bearing 95 = .ok (.ireturn, 1) := by decide +kernel
theorem lv_RX6_146 : gLv RX6 146 RX6 yX6_isWinter cX6_isWinter 1 (some .boolean) 0 := gLv_of (wA_t (wt2 (List.mem_of_getElem? (i := 208) (by decide +kernel))) (by decide +kernel)) (wA_t (wt2 (List.mem_of_getElem? (i := 209) (by decide +kernel))) (by decide +kernel)) (wA_t (wt2 (List.mem_of_getElem? (i := 210) (by decide +kernel))) (by decide +kernel)) (wA_t (wt1 (List.mem_of_getElem? (i := 6) (by decide +kernel))) (by decide +kernel)) (wA_t (wt2 (List.mem_of_getElem? (i := 211) (by decide +kernel))) (by decide +kernel)) ⟨rfl, by decide +kernel, by decide +kernel, by decide +kernel⟩
theorem lv_RX6_150 : gLv RX6 150 RX1 yX1_regard cX1_regard 6 none 5 := gLv_of (wA_t (wt2 (List.mem_of_getElem? (i := 212) (by decide +kernel))) (by decide +kernel)) (wA_t (wt2 (List.mem_of_getElem? (i := 213) (by decide +kernel))) (by decide +kernel)) (wA_t (wt2 (List.mem_of_getElem? (i := 214) (by decide +kernel))) (by decide +kernel)) (wA_t (wt1 (List.mem_of_getElem? (i := 11) (by decide +kernel))) (by decide +kernel)) (wA_t (wt2 (List.mem_of_getElem? (i := 215) (by decide +kernel))) (by decide +kernel)) ⟨rfl, by decide +kernel, by decide +kernel, by decide +kernel⟩
theorem lv_RX6_156 : gLv RX6 156 RX9 yX9_soundness cX9_soundness 1 (some .int) 0 := gLv_of (wA_t (wt2 (List.mem_of_getElem? (i := 228) (by decide +kernel))) (by decide +kernel)) (wA_t (wt2 (List.mem_of_getElem? (i := 229) (by decide +kernel))) (by decide +kernel)) (wA_t (wt2 (List.mem_of_getElem? (i := 230) (by decide +kernel))) (by decide +kernel)) (wA_t (wt1 (List.mem_of_getElem? (i := 8) (by decide +kernel))) (by decide +kernel)) (wA_t (wt2 (List.mem_of_getElem? (i := 231) (by decide +kernel))) (by decide +kernel)) ⟨rfl, by decide +kernel, by decide +kernel, by decide +kernel⟩
theorem lv_RX6_159 : gLv RX6 159 RX1 yX1_sumOfLines cX1_sumOfLines 5 (some .int) 1 := gLv_of (wA_t (wt2 (List.mem_of_getElem? (i := 233) (by decide +kernel))) (by decide +kernel)) (wA_t (wt2 (List.mem_of_getElem? (i := 234) (by decide +kernel))) (by decide +kernel)) (wA_t (wt2 (List.mem_of_getElem? (i := 235) (by decide +kernel))) (by decide +kernel)) (wA_t (wt1 (List.mem_of_getElem? (i := 11) (by decide +kernel))) (by decide +kernel)) (wA_t (wt2 (List.mem_of_getElem? (i := 236) (by decide +kernel))) (by decide +kernel)) ⟨rfl, by decide +kernel, by decide +kernel, by decide +kernel⟩
theorem lf_RX6_163 : gLf RX6 163 5 5 := ⟨(RX5, TX5, 10), rfl, by decide, wA_t (wt1 (List.mem_of_getElem? (i := 185) (by decide +kernel))) (by decide +kernel), rfl⟩
theorem lm_RX6_166 : Cond.methodLink RX6 166 Lib.Math.max.name ∈ wA := wA_t (wt3 (List.mem_of_getElem? (i := 8) (by decide +kernel))) (by decide +kernel)
theorem lf_RX6_169 : gLf RX6 169 5 6 := ⟨(RX5, TX5, 10), rfl, by decide, wA_t (wt1 (List.mem_of_getElem? (i := 189) (by decide +kernel))) (by decide +kernel), rfl⟩
def rm_X6_bearing : Room := { frames := 3, cells := 0, slots := 0, locals := 71 }
def f_X6_bearing (τ : gτ) (n : Nat) (x0 : Nat) (x1 : Nat) (x2 : Nat) (G : gG) : Option (Int32 × gG) :=
  if (gi G 5 9 x1) = 0 then ((f_X6_yarnAt τ x0 (gi G 5 0 x1) G).bind fun a1 =>
  gchk (gkd τ a1 9) <|
  (f_X6_yarnAt τ x0 (gi G 5 1 x1) G).bind fun a2 =>
  gchk (gkd τ a2 9) <|
  (f_X6_yarnAt τ x0 (gi G 5 2 x1) G).bind fun a3 =>
  gchk (gkd τ a3 9) <|
  (f_X6_isWinter x0 G).bind fun v4 =>
  (f_X1_regard τ x2 x1 a1 a2 a3 v4 G).bind fun G5 =>
  (f_X9_soundness a1 G5).bind fun v6 =>
  (f_X9_soundness a2 G5).bind fun v7 =>
  (f_X9_soundness a3 G5).bind fun v8 =>
  gBind2 (f_X1_sumOfLines τ n x2 (0 : Int32) G5) fun v9 G10 =>
  gLet ((((v6 + v7) + v8) + v9) - ((gi G10 5 5 x1) / (10 : Int32))) fun v11 =>
  some ((gmax v11 (0 : Int32)) * (gi G10 5 6 x1), G10))
  else (some (0, G))
set_option maxHeartbeats 4000000 in
set_option maxRecDepth 100000 in
theorem c_X6_bearing (l : Launch) (X : gX) (τ : gτ) (n : Nat) (x0 : Nat) (x1 : Nat) (x2 : Nat) (G : gG) (h0 : gK τ x0 6) (h1 : gK τ x1 5) (h2 : gK τ x2 1) {r : Int32} {G' : gG} (h : f_X6_bearing τ n x0 x1 x2 G = some (r, G')) : gM l X τ yX6_bearing cX6_bearing 7 (some .int) rm_X6_bearing [.ref x0, .ref x1, .ref x2] G (some (.int r)) G' := by
  refine g_body (by decide +kernel) (Nat.le_of_ble_eq_true rfl) ?_
  intro p e s m args below meth c ls fx hr hw hl
  have fx : gFx X p s m args meth c cX6_bearing 7 RX6 := fx
  have hl : lv_has ls 7 [(0, .ref x0), (1, .ref x1), (2, .ref x2)] := hl
  have hok : gOk (f_X6_bearing τ n x0 x1 x2 G) (fun q => q = (r, G')) := ⟨_, h, rfl⟩
  unfold f_X6_bearing at hok
  show W p l e rm_X6_bearing s m args below meth c s.heap [] 0 0 (MQ below (gQ X τ (some (.int r)) G') args s 0 0 (gFree X)) _
  refine lv_aload_n fx.1 fx.2.1 dX6_bearing_0 rfl (lv_at hl 1 rfl) ?_
  refine g_geti fx hw h1 lf_RX6_135 rfl dX6_bearing_1 ?_
  refine g_if_eq (tgt := 9) fx dX6_bearing_4 (by decide) hok (fun hok => ?_) (fun hok => ?_)
  · refine lv_aload_n fx.1 fx.2.1 dX6_bearing_9 rfl (lv_at hl 0 rfl) ?_
    refine lv_aload_n fx.1 fx.2.1 dX6_bearing_10 rfl (lv_at hl 1 rfl) ?_
    refine g_geti fx hw h1 lf_RX6_126 rfl dX6_bearing_11 ?_
    obtain ⟨a1, hf, hok⟩ := gOk_bind hok
    refine g_callV0 (κ := 6) fx hw (c_X6_yarnAt l X τ x0 (gi G 5 0 x1) G h0 hf) lv_RX6_98 ⟨rfl, rfl⟩ rfl rfl h0 rfl hl.1 rfl ⟨Nat.le_of_ble_eq_true rfl, Nat.le_of_ble_eq_true rfl⟩ (Nat.le_of_ble_eq_true rfl) ⟨Nat.le_of_ble_eq_true rfl, Nat.le_of_ble_eq_true rfl⟩ dX6_bearing_14 (fun H locs hw => ?_)
    obtain ⟨h_a1, hok⟩ := gOk_chk hok
    have h_a1 : gK τ a1 9 := gkd_K h_a1
    refine lv_astore_n (lv' := [(3, .ref a1), (0, .ref x0), (1, .ref x1), (2, .ref x2)]) fx.1 fx.2.1 dX6_bearing_17 rfl hl (by decide) rfl (fun ls hl => ?_)
    refine lv_aload_n fx.1 fx.2.1 dX6_bearing_18 rfl (lv_at hl 1 rfl) ?_
    refine lv_aload_n fx.1 fx.2.1 dX6_bearing_19 rfl (lv_at hl 2 rfl) ?_
    refine g_geti fx hw h1 lf_RX6_129 rfl dX6_bearing_20 ?_
    obtain ⟨a2, hf, hok⟩ := gOk_bind hok
    refine g_callV0 (κ := 6) fx hw (c_X6_yarnAt l X τ x0 (gi G 5 1 x1) G h0 hf) lv_RX6_98 ⟨rfl, rfl⟩ rfl rfl h0 rfl hl.1 rfl ⟨Nat.le_of_ble_eq_true rfl, Nat.le_of_ble_eq_true rfl⟩ (Nat.le_of_ble_eq_true rfl) ⟨Nat.le_of_ble_eq_true rfl, Nat.le_of_ble_eq_true rfl⟩ dX6_bearing_23 (fun H locs hw => ?_)
    obtain ⟨h_a2, hok⟩ := gOk_chk hok
    have h_a2 : gK τ a2 9 := gkd_K h_a2
    refine lv_astore (lv' := [(4, .ref a2), (3, .ref a1), (0, .ref x0), (1, .ref x1), (2, .ref x2)]) fx.1 fx.2.1 dX6_bearing_26 hl (by decide) rfl (fun ls hl => ?_)
    refine lv_aload_n fx.1 fx.2.1 dX6_bearing_28 rfl (lv_at hl 2 rfl) ?_
    refine lv_aload_n fx.1 fx.2.1 dX6_bearing_29 rfl (lv_at hl 3 rfl) ?_
    refine g_geti fx hw h1 lf_RX6_132 rfl dX6_bearing_30 ?_
    obtain ⟨a3, hf, hok⟩ := gOk_bind hok
    refine g_callV0 (κ := 6) fx hw (c_X6_yarnAt l X τ x0 (gi G 5 2 x1) G h0 hf) lv_RX6_98 ⟨rfl, rfl⟩ rfl rfl h0 rfl hl.1 rfl ⟨Nat.le_of_ble_eq_true rfl, Nat.le_of_ble_eq_true rfl⟩ (Nat.le_of_ble_eq_true rfl) ⟨Nat.le_of_ble_eq_true rfl, Nat.le_of_ble_eq_true rfl⟩ dX6_bearing_33 (fun H locs hw => ?_)
    obtain ⟨h_a3, hok⟩ := gOk_chk hok
    have h_a3 : gK τ a3 9 := gkd_K h_a3
    refine lv_astore (lv' := [(5, .ref a3), (4, .ref a2), (3, .ref a1), (0, .ref x0), (1, .ref x1), (2, .ref x2)]) fx.1 fx.2.1 dX6_bearing_36 hl (by decide) rfl (fun ls hl => ?_)
    refine lv_aload_n fx.1 fx.2.1 dX6_bearing_38 rfl (lv_at hl 5 rfl) ?_
    refine lv_aload_n fx.1 fx.2.1 dX6_bearing_39 rfl (lv_at hl 4 rfl) ?_
    refine lv_aload_n fx.1 fx.2.1 dX6_bearing_40 rfl (lv_at hl 2 rfl) ?_
    refine lv_aload fx.1 fx.2.1 dX6_bearing_41 (lv_at hl 1 rfl) ?_
    refine lv_aload fx.1 fx.2.1 dX6_bearing_43 (lv_at hl 0 rfl) ?_
    refine lv_aload_n fx.1 fx.2.1 dX6_bearing_45 rfl (lv_at hl 3 rfl) ?_
    obtain ⟨v4, hf, hok⟩ := gOk_bind hok
    refine g_callV0 (κ := 6) fx hw (c_X6_isWinter l X τ x0 G h0 hf) lv_RX6_146 ⟨rfl, rfl⟩ rfl rfl h0 rfl hl.1 rfl ⟨Nat.le_of_ble_eq_true rfl, Nat.le_of_ble_eq_true rfl⟩ (Nat.le_of_ble_eq_true rfl) ⟨Nat.le_of_ble_eq_true rfl, Nat.le_of_ble_eq_true rfl⟩ dX6_bearing_46 (fun H locs hw => ?_)
    obtain ⟨G5, hf, hok⟩ := gOk_bind hok
    refine g_callV0 (κ := 1) fx hw (c_X1_regard l X τ x2 x1 a1 a2 a3 v4 G h2 h1 h_a1 h_a2 h_a3 hf) lv_RX6_150 ⟨rfl, rfl⟩ rfl rfl h2 rfl hl.1 rfl ⟨Nat.le_of_ble_eq_true rfl, Nat.le_of_ble_eq_true rfl⟩ (Nat.le_of_ble_eq_true rfl) ⟨Nat.le_of_ble_eq_true rfl, Nat.le_of_ble_eq_true rfl⟩ dX6_bearing_49 (fun H locs hw => ?_)
    refine lv_aload_n fx.1 fx.2.1 dX6_bearing_52 rfl (lv_at hl 2 rfl) ?_
    obtain ⟨v6, hf, hok⟩ := gOk_bind hok
    refine g_callV0 (κ := 9) fx hw (c_X9_soundness l X τ a1 G5 h_a1 hf) lv_RX6_156 ⟨rfl, rfl⟩ rfl rfl h_a1 rfl hl.1 rfl ⟨Nat.le_of_ble_eq_true rfl, Nat.le_of_ble_eq_true rfl⟩ (Nat.le_of_ble_eq_true rfl) ⟨Nat.le_of_ble_eq_true rfl, Nat.le_of_ble_eq_true rfl⟩ dX6_bearing_53 (fun H locs hw => ?_)
    refine lv_aload fx.1 fx.2.1 dX6_bearing_56 (lv_at hl 1 rfl) ?_
    obtain ⟨v7, hf, hok⟩ := gOk_bind hok
    refine g_callV0 (κ := 9) fx hw (c_X9_soundness l X τ a2 G5 h_a2 hf) lv_RX6_156 ⟨rfl, rfl⟩ rfl rfl h_a2 rfl hl.1 rfl ⟨Nat.le_of_ble_eq_true rfl, Nat.le_of_ble_eq_true rfl⟩ (Nat.le_of_ble_eq_true rfl) ⟨Nat.le_of_ble_eq_true rfl, Nat.le_of_ble_eq_true rfl⟩ dX6_bearing_58 (fun H locs hw => ?_)
    refine lv_iadd fx.1 fx.2.1 dX6_bearing_61 ?_
    refine lv_aload fx.1 fx.2.1 dX6_bearing_62 (lv_at hl 0 rfl) ?_
    obtain ⟨v8, hf, hok⟩ := gOk_bind hok
    refine g_callV0 (κ := 9) fx hw (c_X9_soundness l X τ a3 G5 h_a3 hf) lv_RX6_156 ⟨rfl, rfl⟩ rfl rfl h_a3 rfl hl.1 rfl ⟨Nat.le_of_ble_eq_true rfl, Nat.le_of_ble_eq_true rfl⟩ (Nat.le_of_ble_eq_true rfl) ⟨Nat.le_of_ble_eq_true rfl, Nat.le_of_ble_eq_true rfl⟩ dX6_bearing_64 (fun H locs hw => ?_)
    refine lv_iadd fx.1 fx.2.1 dX6_bearing_67 ?_
    refine lv_aload_n fx.1 fx.2.1 dX6_bearing_68 rfl (lv_at hl 5 rfl) ?_
    refine lv_iconst (v := 0) fx.1 fx.2.1 dX6_bearing_69 (by decide) ?_
    obtain ⟨v9, G10, hf, hok⟩ := gOk_bind2 hok
    refine g_callV0 (κ := 1) fx hw (c_X1_sumOfLines l X τ n x2 (0 : Int32) G5 h2 hf) lv_RX6_159 ⟨rfl, rfl⟩ rfl rfl h2 rfl hl.1 rfl ⟨Nat.le_of_ble_eq_true rfl, Nat.le_of_ble_eq_true rfl⟩ (Nat.le_of_ble_eq_true rfl) ⟨Nat.le_of_ble_eq_true rfl, Nat.le_of_ble_eq_true rfl⟩ dX6_bearing_70 (fun H locs hw => ?_)
    refine lv_iadd fx.1 fx.2.1 dX6_bearing_73 ?_
    refine lv_aload_n fx.1 fx.2.1 dX6_bearing_74 rfl (lv_at hl 4 rfl) ?_
    refine g_geti fx hw h1 lf_RX6_163 rfl dX6_bearing_75 ?_
    refine lv_bipush (v := 10) fx.1 fx.2.1 dX6_bearing_78 (by decide) ?_
    refine lv_idiv fx.1 fx.2.1 dX6_bearing_80 (by decide) ?_
    refine lv_isub fx.1 fx.2.1 dX6_bearing_81 ?_
    refine g_leti hok (fun v11 hok => ?_)
    refine lv_istore (lv' := [(6, .int v11), (5, .ref a3), (4, .ref a2), (3, .ref a1), (0, .ref x0), (1, .ref x1), (2, .ref x2)]) fx.1 fx.2.1 dX6_bearing_82 hl (by decide) rfl (fun ls hl => ?_)
    refine lv_iload fx.1 fx.2.1 dX6_bearing_84 (lv_at hl 0 rfl) ?_
    refine lv_iconst (v := 0) fx.1 fx.2.1 dX6_bearing_86 (by decide) ?_
    refine g_mmax fx hl.1 lm_RX6_166 lmst_max lm_init lmco_max ⟨Nat.le_of_ble_eq_true rfl, Nat.le_of_ble_eq_true rfl, Nat.le_of_ble_eq_true rfl, Nat.le_of_ble_eq_true rfl⟩ dX6_bearing_87 ?_
    refine lv_aload_n fx.1 fx.2.1 dX6_bearing_90 rfl (lv_at hl 5 rfl) ?_
    refine g_geti fx hw h1 lf_RX6_169 rfl dX6_bearing_91 ?_
    refine lv_imul fx.1 fx.2.1 dX6_bearing_94 ?_
    cases gOk_some hok
    exact g_iret fx hw hr dX6_bearing_95
  · refine lv_iconst (v := 0) fx.1 fx.2.1 dX6_bearing_7 (by decide) ?_
    cases gOk_some hok
    exact g_iret fx hw hr dX6_bearing_8
theorem dX6_wearing_0 : decode cX6_wearing 0 = .ok (.aload_n 2, 1) := by decide +kernel
theorem dX6_wearing_1 : decode cX6_wearing 1 = .ok (.getfield 172, 3) := by decide +kernel
theorem dX6_wearing_4 : decode cX6_wearing 4 = .ok (.ifCond .ne 5, 3) := by decide +kernel
theorem dX6_wearing_7 : decode cX6_wearing 7 = .ok (.iconst 1, 1) := by decide +kernel
theorem dX6_wearing_8 : decode cX6_wearing 8 = .ok (.ireturn, 1) := by decide +kernel
theorem dX6_wearing_9 : decode cX6_wearing 9 = .ok (.aload_n 2, 1) := by decide +kernel
theorem dX6_wearing_10 : decode cX6_wearing 10 = .ok (.aload_n 1, 1) := by decide +kernel
theorem dX6_wearing_11 : decode cX6_wearing 11 = .ok (.aload_n 0, 1) := by decide +kernel
theorem dX6_wearing_12 : decode cX6_wearing 12 = .ok (.aload_n 1, 1) := by decide +kernel
theorem dX6_wearing_13 : decode cX6_wearing 13 = .ok (.getfield 126, 3) := by decide +kernel
theorem dX6_wearing_16 : decode cX6_wearing 16 = .ok (.invokevirtual 98, 3) := by decide +kernel
theorem dX6_wearing_19 : decode cX6_wearing 19 = .ok (.aload_n 0, 1) := by decide +kernel
theorem dX6_wearing_20 : decode cX6_wearing 20 = .ok (.aload_n 1, 1) := by decide +kernel
theorem dX6_wearing_21 : decode cX6_wearing 21 = .ok (.getfield 129, 3) := by decide +kernel
theorem dX6_wearing_24 : decode cX6_wearing 24 = .ok (.invokevirtual 98, 3) := by decide +kernel
theorem dX6_wearing_27 : decode cX6_wearing 27 = .ok (.aload_n 0, 1) := by decide +kernel
theorem dX6_wearing_28 : decode cX6_wearing 28 = .ok (.aload_n 1, 1) := by decide +kernel
theorem dX6_wearing_29 : decode cX6_wearing 29 = .ok (.getfield 132, 3) := by decide +kernel
theorem dX6_wearing_32 : decode cX6_wearing 32 = .ok (.invokevirtual 98, 3) := by decide +kernel
theorem dX6_wearing_35 : decode cX6_wearing 35 = .ok (.aload_n 0, 1) := by decide +kernel
theorem dX6_wearing_36 : decode cX6_wearing 36 = .ok (.invokevirtual 146, 3) := by decide +kernel
theorem dX6_wearing_39 : decode cX6_wearing 39 = .ok (.invokevirtual 150, 3) := by decide +kernel
theorem dX6_wearing_42 : decode cX6_wearing 42 = .ok (.aload_n 2, 1) := by decide +kernel
theorem dX6_wearing_43 : decode cX6_wearing 43 = .ok (.iconst 1, 1) := by decide +kernel
theorem dX6_wearing_44 : decode cX6_wearing 44 = .ok (.invokevirtual 159, 3) := by decide +kernel
theorem dX6_wearing_47 : decode cX6_wearing 47 = .ok (.ireturn, 1) := by decide +kernel
theorem lf_RX6_172 : gLf RX6 172 1 8 := ⟨(RX1, TX1, 9), rfl, by decide, wA_t (wt2 (List.mem_of_getElem? (i := 103) (by decide +kernel))) (by decide +kernel), rfl⟩
def rm_X6_wearing : Room := { frames := 3, cells := 0, slots := 0, locals := 71 }
def f_X6_wearing (τ : gτ) (n : Nat) (x0 : Nat) (x1 : Nat) (x2 : Nat) (G : gG) : Option (Int32 × gG) :=
  if (gi G 1 8 x2) = 0 then (some (1, G))
  else ((f_X6_yarnAt τ x0 (gi G 5 0 x1) G).bind fun a1 =>
  gchk (gkd τ a1 9) <|
  (f_X6_yarnAt τ x0 (gi G 5 1 x1) G).bind fun a2 =>
  gchk (gkd τ a2 9) <|
  (f_X6_yarnAt τ x0 (gi G 5 2 x1) G).bind fun a3 =>
  gchk (gkd τ a3 9) <|
  (f_X6_isWinter x0 G).bind fun v4 =>
  (f_X1_regard τ x2 x1 a1 a2 a3 v4 G).bind fun G5 =>
  gBind2 (f_X1_sumOfLines τ n x2 (1 : Int32) G5) fun v6 G7 =>
  some (v6, G7))
set_option maxHeartbeats 4000000 in
set_option maxRecDepth 100000 in
theorem c_X6_wearing (l : Launch) (X : gX) (τ : gτ) (n : Nat) (x0 : Nat) (x1 : Nat) (x2 : Nat) (G : gG) (h0 : gK τ x0 6) (h1 : gK τ x1 5) (h2 : gK τ x2 1) {r : Int32} {G' : gG} (h : f_X6_wearing τ n x0 x1 x2 G = some (r, G')) : gM l X τ yX6_wearing cX6_wearing 3 (some .int) rm_X6_wearing [.ref x0, .ref x1, .ref x2] G (some (.int r)) G' := by
  refine g_body (by decide +kernel) (Nat.le_of_ble_eq_true rfl) ?_
  intro p e s m args below meth c ls fx hr hw hl
  have fx : gFx X p s m args meth c cX6_wearing 3 RX6 := fx
  have hl : lv_has ls 3 [(0, .ref x0), (1, .ref x1), (2, .ref x2)] := hl
  have hok : gOk (f_X6_wearing τ n x0 x1 x2 G) (fun q => q = (r, G')) := ⟨_, h, rfl⟩
  unfold f_X6_wearing at hok
  show W p l e rm_X6_wearing s m args below meth c s.heap [] 0 0 (MQ below (gQ X τ (some (.int r)) G') args s 0 0 (gFree X)) _
  refine lv_aload_n fx.1 fx.2.1 dX6_wearing_0 rfl (lv_at hl 2 rfl) ?_
  refine g_geti fx hw h2 lf_RX6_172 rfl dX6_wearing_1 ?_
  refine g_if_ne (tgt := 9) fx dX6_wearing_4 (by decide) hok (fun hok => ?_) (fun hok => ?_)
  · refine lv_iconst (v := 1) fx.1 fx.2.1 dX6_wearing_7 (by decide) ?_
    cases gOk_some hok
    exact g_iret fx hw hr dX6_wearing_8
  · refine lv_aload_n fx.1 fx.2.1 dX6_wearing_9 rfl (lv_at hl 2 rfl) ?_
    refine lv_aload_n fx.1 fx.2.1 dX6_wearing_10 rfl (lv_at hl 1 rfl) ?_
    refine lv_aload_n fx.1 fx.2.1 dX6_wearing_11 rfl (lv_at hl 0 rfl) ?_
    refine lv_aload_n fx.1 fx.2.1 dX6_wearing_12 rfl (lv_at hl 1 rfl) ?_
    refine g_geti fx hw h1 lf_RX6_126 rfl dX6_wearing_13 ?_
    obtain ⟨a1, hf, hok⟩ := gOk_bind hok
    refine g_callV0 (κ := 6) fx hw (c_X6_yarnAt l X τ x0 (gi G 5 0 x1) G h0 hf) lv_RX6_98 ⟨rfl, rfl⟩ rfl rfl h0 rfl hl.1 rfl ⟨Nat.le_of_ble_eq_true rfl, Nat.le_of_ble_eq_true rfl⟩ (Nat.le_of_ble_eq_true rfl) ⟨Nat.le_of_ble_eq_true rfl, Nat.le_of_ble_eq_true rfl⟩ dX6_wearing_16 (fun H locs hw => ?_)
    obtain ⟨h_a1, hok⟩ := gOk_chk hok
    have h_a1 : gK τ a1 9 := gkd_K h_a1
    refine lv_aload_n fx.1 fx.2.1 dX6_wearing_19 rfl (lv_at hl 0 rfl) ?_
    refine lv_aload_n fx.1 fx.2.1 dX6_wearing_20 rfl (lv_at hl 1 rfl) ?_
    refine g_geti fx hw h1 lf_RX6_129 rfl dX6_wearing_21 ?_
    obtain ⟨a2, hf, hok⟩ := gOk_bind hok
    refine g_callV0 (κ := 6) fx hw (c_X6_yarnAt l X τ x0 (gi G 5 1 x1) G h0 hf) lv_RX6_98 ⟨rfl, rfl⟩ rfl rfl h0 rfl hl.1 rfl ⟨Nat.le_of_ble_eq_true rfl, Nat.le_of_ble_eq_true rfl⟩ (Nat.le_of_ble_eq_true rfl) ⟨Nat.le_of_ble_eq_true rfl, Nat.le_of_ble_eq_true rfl⟩ dX6_wearing_24 (fun H locs hw => ?_)
    obtain ⟨h_a2, hok⟩ := gOk_chk hok
    have h_a2 : gK τ a2 9 := gkd_K h_a2
    refine lv_aload_n fx.1 fx.2.1 dX6_wearing_27 rfl (lv_at hl 0 rfl) ?_
    refine lv_aload_n fx.1 fx.2.1 dX6_wearing_28 rfl (lv_at hl 1 rfl) ?_
    refine g_geti fx hw h1 lf_RX6_132 rfl dX6_wearing_29 ?_
    obtain ⟨a3, hf, hok⟩ := gOk_bind hok
    refine g_callV0 (κ := 6) fx hw (c_X6_yarnAt l X τ x0 (gi G 5 2 x1) G h0 hf) lv_RX6_98 ⟨rfl, rfl⟩ rfl rfl h0 rfl hl.1 rfl ⟨Nat.le_of_ble_eq_true rfl, Nat.le_of_ble_eq_true rfl⟩ (Nat.le_of_ble_eq_true rfl) ⟨Nat.le_of_ble_eq_true rfl, Nat.le_of_ble_eq_true rfl⟩ dX6_wearing_32 (fun H locs hw => ?_)
    obtain ⟨h_a3, hok⟩ := gOk_chk hok
    have h_a3 : gK τ a3 9 := gkd_K h_a3
    refine lv_aload_n fx.1 fx.2.1 dX6_wearing_35 rfl (lv_at hl 0 rfl) ?_
    obtain ⟨v4, hf, hok⟩ := gOk_bind hok
    refine g_callV0 (κ := 6) fx hw (c_X6_isWinter l X τ x0 G h0 hf) lv_RX6_146 ⟨rfl, rfl⟩ rfl rfl h0 rfl hl.1 rfl ⟨Nat.le_of_ble_eq_true rfl, Nat.le_of_ble_eq_true rfl⟩ (Nat.le_of_ble_eq_true rfl) ⟨Nat.le_of_ble_eq_true rfl, Nat.le_of_ble_eq_true rfl⟩ dX6_wearing_36 (fun H locs hw => ?_)
    obtain ⟨G5, hf, hok⟩ := gOk_bind hok
    refine g_callV0 (κ := 1) fx hw (c_X1_regard l X τ x2 x1 a1 a2 a3 v4 G h2 h1 h_a1 h_a2 h_a3 hf) lv_RX6_150 ⟨rfl, rfl⟩ rfl rfl h2 rfl hl.1 rfl ⟨Nat.le_of_ble_eq_true rfl, Nat.le_of_ble_eq_true rfl⟩ (Nat.le_of_ble_eq_true rfl) ⟨Nat.le_of_ble_eq_true rfl, Nat.le_of_ble_eq_true rfl⟩ dX6_wearing_39 (fun H locs hw => ?_)
    refine lv_aload_n fx.1 fx.2.1 dX6_wearing_42 rfl (lv_at hl 2 rfl) ?_
    refine lv_iconst (v := 1) fx.1 fx.2.1 dX6_wearing_43 (by decide) ?_
    obtain ⟨v6, G7, hf, hok⟩ := gOk_bind2 hok
    refine g_callV0 (κ := 1) fx hw (c_X1_sumOfLines l X τ n x2 (1 : Int32) G5 h2 hf) lv_RX6_159 ⟨rfl, rfl⟩ rfl rfl h2 rfl hl.1 rfl ⟨Nat.le_of_ble_eq_true rfl, Nat.le_of_ble_eq_true rfl⟩ (Nat.le_of_ble_eq_true rfl) ⟨Nat.le_of_ble_eq_true rfl, Nat.le_of_ble_eq_true rfl⟩ dX6_wearing_44 (fun H locs hw => ?_)
    cases gOk_some hok
    exact g_iret fx hw hr dX6_wearing_47
theorem dX6_addOrder_0 : decode cX6_addOrder 0 = .ok (.aload_n 0, 1) := by decide +kernel
theorem dX6_addOrder_1 : decode cX6_addOrder 1 = .ok (.getfield 56, 3) := by decide +kernel
theorem dX6_addOrder_4 : decode cX6_addOrder 4 = .ok (.bipush 8, 2) := by decide +kernel
theorem dX6_addOrder_6 : decode cX6_addOrder 6 = .ok (.if_icmp .lt 4, 3) := by decide +kernel
theorem dX6_addOrder_9 : decode cX6_addOrder 9 = .ok (.return_, 1) := by decide +kernel
theorem dX6_addOrder_10 : decode cX6_addOrder 10 = .ok (.aload_n 0, 1) := by decide +kernel
theorem dX6_addOrder_11 : decode cX6_addOrder 11 = .ok (.getfield 25, 3) := by decide +kernel
theorem dX6_addOrder_14 : decode cX6_addOrder 14 = .ok (.aload_n 0, 1) := by decide +kernel
theorem dX6_addOrder_15 : decode cX6_addOrder 15 = .ok (.getfield 56, 3) := by decide +kernel
theorem dX6_addOrder_18 : decode cX6_addOrder 18 = .ok (.aaload, 1) := by decide +kernel
theorem dX6_addOrder_19 : decode cX6_addOrder 19 = .ok (.astore 4, 2) := by decide +kernel
theorem dX6_addOrder_21 : decode cX6_addOrder 21 = .ok (.aload 4, 2) := by decide +kernel
theorem dX6_addOrder_23 : decode cX6_addOrder 23 = .ok (.iload_n 1, 1) := by decide +kernel
theorem dX6_addOrder_24 : decode cX6_addOrder 24 = .ok (.putfield 175, 3) := by decide +kernel
theorem dX6_addOrder_27 : decode cX6_addOrder 27 = .ok (.aload 4, 2) := by decide +kernel
theorem dX6_addOrder_29 : decode cX6_addOrder 29 = .ok (.iload_n 2, 1) := by decide +kernel
theorem dX6_addOrder_30 : decode cX6_addOrder 30 = .ok (.putfield 176, 3) := by decide +kernel
theorem dX6_addOrder_33 : decode cX6_addOrder 33 = .ok (.aload 4, 2) := by decide +kernel
theorem dX6_addOrder_35 : decode cX6_addOrder 35 = .ok (.iload_n 3, 1) := by decide +kernel
theorem dX6_addOrder_36 : decode cX6_addOrder 36 = .ok (.putfield 177, 3) := by decide +kernel
theorem dX6_addOrder_39 : decode cX6_addOrder 39 = .ok (.aload_n 0, 1) := by decide +kernel
theorem dX6_addOrder_40 : decode cX6_addOrder 40 = .ok (.dup, 1) := by decide +kernel
theorem dX6_addOrder_41 : decode cX6_addOrder 41 = .ok (.getfield 56, 3) := by decide +kernel
theorem dX6_addOrder_44 : decode cX6_addOrder 44 = .ok (.iconst 1, 1) := by decide +kernel
theorem dX6_addOrder_45 : decode cX6_addOrder 45 = .ok (.iadd, 1) := by decide +kernel
theorem dX6_addOrder_46 : decode cX6_addOrder 46 = .ok (.putfield 56, 3) := by decide +kernel
theorem dX6_addOrder_49 : decode cX6_addOrder 49 = .ok (.return_, 1) := by decide +kernel
theorem lp_RX6_175 : gLp RX6 175 4 0 := ⟨(RX4, TX4, 3), rfl, by decide, wA_t (wt1 (List.mem_of_getElem? (i := 233) (by decide +kernel))) (by decide +kernel), rfl, rfl⟩
theorem lp_RX6_176 : gLp RX6 176 4 1 := ⟨(RX4, TX4, 3), rfl, by decide, wA_t (wt1 (List.mem_of_getElem? (i := 236) (by decide +kernel))) (by decide +kernel), rfl, rfl⟩
theorem lp_RX6_177 : gLp RX6 177 4 2 := ⟨(RX4, TX4, 3), rfl, by decide, wA_t (wt1 (List.mem_of_getElem? (i := 239) (by decide +kernel))) (by decide +kernel), rfl, rfl⟩
def rm_X6_addOrder : Room := { frames := 0, cells := 0, slots := 0, locals := 0 }
def f_X6_addOrder (τ : gτ) (x0 : Nat) (x1 : Int32) (x2 : Int32) (x3 : Int32) (G : gG) : Option (gG) :=
  if (gi G 6 6 x0) < (8 : Int32) then ((gr G 6 2 x0).bind fun a1 =>
  gchk (gIn (gi G 6 6 x0) (gn τ a1)) <| (gq G a1 (Int32.toNatClampNeg (gi G 6 6 x0))).bind fun a2 =>
  gLet (gsi G 4 0 a2 x1) fun G3 =>
  gLet (gsi G3 4 1 a2 x2) fun G4 =>
  gLet (gsi G4 4 2 a2 x3) fun G5 =>
  gLet (gsi G5 6 6 x0 ((gi G5 6 6 x0) + (1 : Int32))) fun G6 =>
  some G6)
  else (some G)
set_option maxHeartbeats 4000000 in
set_option maxRecDepth 100000 in
theorem c_X6_addOrder (l : Launch) (X : gX) (τ : gτ) (x0 : Nat) (x1 : Int32) (x2 : Int32) (x3 : Int32) (G : gG) (h0 : gK τ x0 6) {G' : gG} (h : f_X6_addOrder τ x0 x1 x2 x3 G = some G') : gM l X τ yX6_addOrder cX6_addOrder 5 none rm_X6_addOrder [.ref x0, .int x1, .int x2, .int x3] G none G' := by
  refine g_body (by decide +kernel) (Nat.le_of_ble_eq_true rfl) ?_
  intro p e s m args below meth c ls fx hr hw hl
  have fx : gFx X p s m args meth c cX6_addOrder 5 RX6 := fx
  have hl : lv_has ls 5 [(0, .ref x0), (1, .int x1), (2, .int x2), (3, .int x3)] := hl
  have hok : gOk (f_X6_addOrder τ x0 x1 x2 x3 G) (fun q => q = G') := ⟨_, h, rfl⟩
  unfold f_X6_addOrder at hok
  show W p l e rm_X6_addOrder s m args below meth c s.heap [] 0 0 (MQ below (gQ X τ none G') args s 0 0 (gFree X)) _
  refine lv_aload_n fx.1 fx.2.1 dX6_addOrder_0 rfl (lv_at hl 0 rfl) ?_
  refine g_geti fx hw h0 lf_RX6_56 rfl dX6_addOrder_1 ?_
  refine lv_bipush (v := 8) fx.1 fx.2.1 dX6_addOrder_4 (by decide) ?_
  refine g_icmp_lt (tgt := 10) fx dX6_addOrder_6 (by decide) hok (fun hok => ?_) (fun hok => ?_)
  · refine lv_aload_n fx.1 fx.2.1 dX6_addOrder_10 rfl (lv_at hl 0 rfl) ?_
    refine g_getr fx hw h0 lf_RX6_25 rfl dX6_addOrder_11 hok (fun a1 h_a1 hok => ?_)
    refine lv_aload_n fx.1 fx.2.1 dX6_addOrder_14 rfl (lv_at hl 0 rfl) ?_
    refine g_geti fx hw h0 lf_RX6_56 rfl dX6_addOrder_15 ?_
    refine g_aald fx hw 14 2 h_a1 (by decide) (by decide) rfl (κ' := 4) rfl dX6_addOrder_18 hok (fun a2 h_a2 hok => ?_)
    refine lv_astore (lv' := [(4, .ref a2), (0, .ref x0), (1, .int x1), (2, .int x2), (3, .int x3)]) fx.1 fx.2.1 dX6_addOrder_19 hl (by decide) rfl (fun ls hl => ?_)
    refine lv_aload fx.1 fx.2.1 dX6_addOrder_21 (lv_at hl 0 rfl) ?_
    refine lv_iload_n fx.1 fx.2.1 dX6_addOrder_23 rfl (lv_at hl 2 rfl) ?_
    refine g_puti fx hw h_a2 lp_RX6_175 rfl rfl dX6_addOrder_24 hok (fun G3 H locs hw hok => ?_)
    refine lv_aload fx.1 fx.2.1 dX6_addOrder_27 (lv_at hl 0 rfl) ?_
    refine lv_iload_n fx.1 fx.2.1 dX6_addOrder_29 rfl (lv_at hl 3 rfl) ?_
    refine g_puti fx hw h_a2 lp_RX6_176 rfl rfl dX6_addOrder_30 hok (fun G4 H locs hw hok => ?_)
    refine lv_aload fx.1 fx.2.1 dX6_addOrder_33 (lv_at hl 0 rfl) ?_
    refine lv_iload_n fx.1 fx.2.1 dX6_addOrder_35 rfl (lv_at hl 4 rfl) ?_
    refine g_puti fx hw h_a2 lp_RX6_177 rfl rfl dX6_addOrder_36 hok (fun G5 H locs hw hok => ?_)
    refine lv_aload_n fx.1 fx.2.1 dX6_addOrder_39 rfl (lv_at hl 1 rfl) ?_
    refine lv_dup fx.1 fx.2.1 dX6_addOrder_40 rfl ?_
    refine g_geti fx hw h0 lf_RX6_56 rfl dX6_addOrder_41 ?_
    refine lv_iconst (v := 1) fx.1 fx.2.1 dX6_addOrder_44 (by decide) ?_
    refine lv_iadd fx.1 fx.2.1 dX6_addOrder_45 ?_
    refine g_puti fx hw h0 lp_RX6_56 rfl rfl dX6_addOrder_46 hok (fun G6 H locs hw hok => ?_)
    cases gOk_some hok
    exact g_vret fx hw hr dX6_addOrder_49
  · cases gOk_some hok
    exact g_vret fx hw hr dX6_addOrder_9
theorem dX6_removeOrder_0 : decode cX6_removeOrder 0 = .ok (.iload_n 1, 1) := by decide +kernel
theorem dX6_removeOrder_1 : decode cX6_removeOrder 1 = .ok (.istore_n 2, 1) := by decide +kernel
theorem dX6_removeOrder_2 : decode cX6_removeOrder 2 = .ok (.iload_n 2, 1) := by decide +kernel
theorem dX6_removeOrder_3 : decode cX6_removeOrder 3 = .ok (.ifCond .lt 36, 3) := by decide +kernel
theorem dX6_removeOrder_6 : decode cX6_removeOrder 6 = .ok (.iload_n 2, 1) := by decide +kernel
theorem dX6_removeOrder_7 : decode cX6_removeOrder 7 = .ok (.iconst 1, 1) := by decide +kernel
theorem dX6_removeOrder_8 : decode cX6_removeOrder 8 = .ok (.iadd, 1) := by decide +kernel
theorem dX6_removeOrder_9 : decode cX6_removeOrder 9 = .ok (.aload_n 0, 1) := by decide +kernel
theorem dX6_removeOrder_10 : decode cX6_removeOrder 10 = .ok (.getfield 56, 3) := by decide +kernel
theorem dX6_removeOrder_13 : decode cX6_removeOrder 13 = .ok (.if_icmp .ge 26, 3) := by decide +kernel
theorem dX6_removeOrder_16 : decode cX6_removeOrder 16 = .ok (.aload_n 0, 1) := by decide +kernel
theorem dX6_removeOrder_17 : decode cX6_removeOrder 17 = .ok (.getfield 25, 3) := by decide +kernel
theorem dX6_removeOrder_20 : decode cX6_removeOrder 20 = .ok (.iload_n 2, 1) := by decide +kernel
theorem dX6_removeOrder_21 : decode cX6_removeOrder 21 = .ok (.aaload, 1) := by decide +kernel
theorem dX6_removeOrder_22 : decode cX6_removeOrder 22 = .ok (.aload_n 0, 1) := by decide +kernel
theorem dX6_removeOrder_23 : decode cX6_removeOrder 23 = .ok (.getfield 25, 3) := by decide +kernel
theorem dX6_removeOrder_26 : decode cX6_removeOrder 26 = .ok (.iload_n 2, 1) := by decide +kernel
theorem dX6_removeOrder_27 : decode cX6_removeOrder 27 = .ok (.iconst 1, 1) := by decide +kernel
theorem dX6_removeOrder_28 : decode cX6_removeOrder 28 = .ok (.iadd, 1) := by decide +kernel
theorem dX6_removeOrder_29 : decode cX6_removeOrder 29 = .ok (.aaload, 1) := by decide +kernel
theorem dX6_removeOrder_30 : decode cX6_removeOrder 30 = .ok (.invokevirtual 59, 3) := by decide +kernel
theorem dX6_removeOrder_33 : decode cX6_removeOrder 33 = .ok (.iinc 2 1, 3) := by decide +kernel
theorem dX6_removeOrder_36 : decode cX6_removeOrder 36 = .ok (.goto (-34), 3) := by decide +kernel
theorem dX6_removeOrder_39 : decode cX6_removeOrder 39 = .ok (.aload_n 0, 1) := by decide +kernel
theorem dX6_removeOrder_40 : decode cX6_removeOrder 40 = .ok (.dup, 1) := by decide +kernel
theorem dX6_removeOrder_41 : decode cX6_removeOrder 41 = .ok (.getfield 56, 3) := by decide +kernel
theorem dX6_removeOrder_44 : decode cX6_removeOrder 44 = .ok (.iconst 1, 1) := by decide +kernel
theorem dX6_removeOrder_45 : decode cX6_removeOrder 45 = .ok (.isub, 1) := by decide +kernel
theorem dX6_removeOrder_46 : decode cX6_removeOrder 46 = .ok (.putfield 56, 3) := by decide +kernel
theorem dX6_removeOrder_49 : decode cX6_removeOrder 49 = .ok (.return_, 1) := by decide +kernel
def rm_X6_removeOrder : Room := { frames := 1, cells := 0, slots := 0, locals := 21 }
def b_X6_removeOrder_2 (τ : gτ) (n : Nat) (x0 : Nat) (x2 : Int32) (G : gG) : Option ((Int32 × gG) ⊕ ((gG))) :=
  if x2 < 0 then (some (.inr G))
  else (if (gi G 6 6 x0) ≤ (x2 + (1 : Int32)) then (some (.inr G))
  else ((gr G 6 2 x0).bind fun a1 =>
  gchk (gIn x2 (gn τ a1)) <| (gq G a1 (Int32.toNatClampNeg x2)).bind fun a2 =>
  (gr G 6 2 x0).bind fun a3 =>
  gchk (gIn (x2 + (1 : Int32)) (gn τ a3)) <| (gq G a3 (Int32.toNatClampNeg (x2 + (1 : Int32)))).bind fun a4 =>
  (f_X4_become a2 a4 G).bind fun G5 =>
  gLet (x2 + 1) fun v6 =>
  some (.inl (v6, G5))))
def l_X6_removeOrder_2 (τ : gτ) (n : Nat) (x0 : Nat) (x2 : Int32) (G : gG) : Option ((gG)) :=
  gIter (fun (q : Int32 × gG) => b_X6_removeOrder_2 τ n x0 q.1 q.2) n (x2, G)
def k_X6_removeOrder_39 (τ : gτ) (n : Nat) (x0 : Nat)  (G : gG) : Option (gG) :=
  gLet (gsi G 6 6 x0 ((gi G 6 6 x0) - (1 : Int32))) fun G8 =>
  some G8
def f_X6_removeOrder (τ : gτ) (n : Nat) (x0 : Nat) (x1 : Int32) (G : gG) : Option (gG) :=
  (l_X6_removeOrder_2 τ n x0 x1 G).bind fun q => gLet q fun G7 => 
  k_X6_removeOrder_39 τ n x0  G7
set_option maxHeartbeats 4000000 in
set_option maxRecDepth 100000 in
theorem w_b_X6_removeOrder_2 {X : gX} {τ : gτ} {p : Program} {l : Launch} {e : Env} {s : State} {m : MethodId} {args : Array Value} {below : List Frame} {meth : Method} {c : Code} (fx : gFx X p s m args meth c cX6_removeOrder 3 RX6) (n : Nat) (x0 : Nat) (x2 : Int32) (h0 : gK τ x0 6) {Q : State → Prop} {K : ((Int32 × gG) ⊕ ((gG))) → Prop} {G : gG} {H : Heap} {locs : List Loc} {ls : Array Slot} (hw : gHw X τ G H locs) (hl : lv_has ls 3 [(0, .ref x0), (2, .int x2)]) (hok : gOk (b_X6_removeOrder_2 τ n x0 x2 G) K) (hc : ∀ (y2 : Int32) (G : gG) (H : Heap) (locs : List Loc) (ls : Array Slot), gHw X τ G H locs → lv_has ls 3 [(0, .ref x0), (2, .int y2)] → K (.inl (y2, G)) → W p l e rm_X6_removeOrder s m args below meth c H locs 0 0 Q (F0 m 2 ls [])) (hx0 : ∀ (G : gG) (H : Heap) (locs : List Loc) (ls : Array Slot), gHw X τ G H locs → lv_has ls 3 [(0, .ref x0)] → K (.inr G) → W p l e rm_X6_removeOrder s m args below meth c H locs 0 0 Q (F0 m 39 ls [])) : W p l e rm_X6_removeOrder s m args below meth c H locs 0 0 Q (F0 m 2 ls []) := by
  unfold b_X6_removeOrder_2 at hok
  refine lv_iload_n fx.1 fx.2.1 dX6_removeOrder_2 rfl (lv_at hl 1 rfl) ?_
  refine g_if_lt (tgt := 39) fx dX6_removeOrder_3 (by decide) hok (fun hok => ?_) (fun hok => ?_)
  · exact hx0  G _ _ _  hw (lv_sub hl [0] rfl) (gOk_some hok)
  · refine lv_iload_n fx.1 fx.2.1 dX6_removeOrder_6 rfl (lv_at hl 1 rfl) ?_
    refine lv_iconst (v := 1) fx.1 fx.2.1 dX6_removeOrder_7 (by decide) ?_
    refine lv_iadd fx.1 fx.2.1 dX6_removeOrder_8 ?_
    refine lv_aload_n fx.1 fx.2.1 dX6_removeOrder_9 rfl (lv_at hl 0 rfl) ?_
    refine g_geti fx hw h0 lf_RX6_56 rfl dX6_removeOrder_10 ?_
    refine g_icmp_ge (tgt := 39) fx dX6_removeOrder_13 (by decide) hok (fun hok => ?_) (fun hok => ?_)
    · exact hx0  G _ _ _  hw (lv_sub hl [0] rfl) (gOk_some hok)
    · refine lv_aload_n fx.1 fx.2.1 dX6_removeOrder_16 rfl (lv_at hl 0 rfl) ?_
      refine g_getr fx hw h0 lf_RX6_25 rfl dX6_removeOrder_17 hok (fun a1 h_a1 hok => ?_)
      refine lv_iload_n fx.1 fx.2.1 dX6_removeOrder_20 rfl (lv_at hl 1 rfl) ?_
      refine g_aald fx hw 14 2 h_a1 (by decide) (by decide) rfl (κ' := 4) rfl dX6_removeOrder_21 hok (fun a2 h_a2 hok => ?_)
      refine lv_aload_n fx.1 fx.2.1 dX6_removeOrder_22 rfl (lv_at hl 0 rfl) ?_
      refine g_getr fx hw h0 lf_RX6_25 rfl dX6_removeOrder_23 hok (fun a3 h_a3 hok => ?_)
      refine lv_iload_n fx.1 fx.2.1 dX6_removeOrder_26 rfl (lv_at hl 1 rfl) ?_
      refine lv_iconst (v := 1) fx.1 fx.2.1 dX6_removeOrder_27 (by decide) ?_
      refine lv_iadd fx.1 fx.2.1 dX6_removeOrder_28 ?_
      refine g_aald fx hw 14 2 h_a3 (by decide) (by decide) rfl (κ' := 4) rfl dX6_removeOrder_29 hok (fun a4 h_a4 hok => ?_)
      obtain ⟨G5, hf, hok⟩ := gOk_bind hok
      refine g_callV0 (κ := 4) fx hw (c_X4_become l X τ a2 a4 G h_a2 h_a4 hf) lv_RX6_59 ⟨rfl, rfl⟩ rfl rfl h_a2 rfl hl.1 rfl ⟨Nat.le_of_ble_eq_true rfl, Nat.le_of_ble_eq_true rfl⟩ (Nat.le_of_ble_eq_true rfl) ⟨Nat.le_of_ble_eq_true rfl, Nat.le_of_ble_eq_true rfl⟩ dX6_removeOrder_30 (fun H locs hw => ?_)
      obtain ⟨v6, e_v6, hok⟩ := gOk_let hok
      refine lv_iinc (v := v6) (lv' := [(2, .int v6), (0, .ref x0)]) fx.1 fx.2.1 dX6_removeOrder_33 hl (k := 1) rfl (by rw [e_v6]; rfl) (by decide) rfl (fun ls hl => ?_)
      refine lv_goto (tgt := 2) fx.1 fx.2.1 dX6_removeOrder_36 (by decide) ?_
      exact hc v6 G5 _ _ _  hw (lv_sub hl [1, 0] rfl) (gOk_some hok)
theorem w_l_X6_removeOrder_2 {X : gX} {τ : gτ} {p : Program} {l : Launch} {e : Env} {s : State} {m : MethodId} {args : Array Value} {below : List Frame} {meth : Method} {c : Code} (fx : gFx X p s m args meth c cX6_removeOrder 3 RX6) (n : Nat) (x0 : Nat) (h0 : gK τ x0 6) {Q : State → Prop} {K : ((gG)) → Prop} (hx0 : ∀ (G : gG) (H : Heap) (locs : List Loc) (ls : Array Slot), gHw X τ G H locs → lv_has ls 3 [(0, .ref x0)] → K G → W p l e rm_X6_removeOrder s m args below meth c H locs 0 0 Q (F0 m 39 ls [])) : ∀ (k : Nat) (x2 : Int32) (G : gG) (H : Heap) (locs : List Loc) (ls : Array Slot), gHw X τ G H locs → lv_has ls 3 [(0, .ref x0), (2, .int x2)] → gOk (gIter (fun (q : Int32 × gG) => b_X6_removeOrder_2 τ n x0 q.1 q.2) k (x2, G)) K → W p l e rm_X6_removeOrder s m args below meth c H locs 0 0 Q (F0 m 2 ls []) := by
  intro k
  induction k with
  | zero =>
    intro x2 G H locs ls hw hl hok
    exact gOk_iter0 hok
  | succ k hc =>
    intro x2 G H locs ls hw hl hok
    exact w_b_X6_removeOrder_2 fx n x0 x2 h0 hw hl (gOk_iter hok) hc hx0
set_option maxHeartbeats 4000000 in
set_option maxRecDepth 100000 in
theorem w_X6_removeOrder_39 {X : gX} {τ : gτ} {p : Program} {l : Launch} {e : Env} {s : State} {m : MethodId} {args : Array Value} {below : List Frame} {meth : Method} {c : Code} (fx : gFx X p s m args meth c cX6_removeOrder 3 RX6) (n : Nat) (x0 : Nat)  (h0 : gK τ x0 6)  (hr : meth.sig.returnType = none) {G' : gG} {G : gG} {H : Heap} {locs : List Loc} {ls : Array Slot} (hw : gHw X τ G H locs) (hl : lv_has ls 3 [(0, .ref x0)]) (hok : gOk (k_X6_removeOrder_39 τ n x0  G) (fun q => q = G'))  : W p l e rm_X6_removeOrder s m args below meth c H locs 0 0 (MQ below (gQ X τ none G') args s 0 0 (gFree X)) (F0 m 39 ls []) := by
  unfold k_X6_removeOrder_39 at hok
  refine lv_aload_n fx.1 fx.2.1 dX6_removeOrder_39 rfl (lv_at hl 0 rfl) ?_
  refine lv_dup fx.1 fx.2.1 dX6_removeOrder_40 rfl ?_
  refine g_geti fx hw h0 lf_RX6_56 rfl dX6_removeOrder_41 ?_
  refine lv_iconst (v := 1) fx.1 fx.2.1 dX6_removeOrder_44 (by decide) ?_
  refine lv_isub fx.1 fx.2.1 dX6_removeOrder_45 ?_
  refine g_puti fx hw h0 lp_RX6_56 rfl rfl dX6_removeOrder_46 hok (fun G8 H locs hw hok => ?_)
  cases gOk_some hok
  exact g_vret fx hw hr dX6_removeOrder_49
set_option maxHeartbeats 4000000 in
set_option maxRecDepth 100000 in
theorem c_X6_removeOrder (l : Launch) (X : gX) (τ : gτ) (n : Nat) (x0 : Nat) (x1 : Int32) (G : gG) (h0 : gK τ x0 6) {G' : gG} (h : f_X6_removeOrder τ n x0 x1 G = some G') : gM l X τ yX6_removeOrder cX6_removeOrder 3 none rm_X6_removeOrder [.ref x0, .int x1] G none G' := by
  refine g_body (by decide +kernel) (Nat.le_of_ble_eq_true rfl) ?_
  intro p e s m args below meth c ls fx hr hw hl
  have fx : gFx X p s m args meth c cX6_removeOrder 3 RX6 := fx
  have hl : lv_has ls 3 [(0, .ref x0), (1, .int x1)] := hl
  have hok : gOk (f_X6_removeOrder τ n x0 x1 G) (fun q => q = G') := ⟨_, h, rfl⟩
  unfold f_X6_removeOrder at hok
  show W p l e rm_X6_removeOrder s m args below meth c s.heap [] 0 0 (MQ below (gQ X τ none G') args s 0 0 (gFree X)) _
  refine lv_iload_n fx.1 fx.2.1 dX6_removeOrder_0 rfl (lv_at hl 1 rfl) ?_
  refine lv_istore_n (lv' := [(2, .int x1), (0, .ref x0), (1, .int x1)]) fx.1 fx.2.1 dX6_removeOrder_1 rfl hl (by decide) rfl (fun ls hl => ?_)
  refine w_l_X6_removeOrder_2 fx n x0 h0 ?_ n x1 G _ _ _  hw (lv_sub hl [1, 0] rfl) (gOk_bindK hok)
  intro G7 H locs ls hw hl hok
  have hok : gOk (ρ := gG) (k_X6_removeOrder_39 τ n x0  G7) _ := hok
  exact w_X6_removeOrder_39 fx n x0  h0  hr hw (lv_sub hl [0] rfl) hok
theorem dX6_ordersBorne_0 : decode cX6_ordersBorne 0 = .ok (.iconst 0, 1) := by decide +kernel
theorem dX6_ordersBorne_1 : decode cX6_ordersBorne 1 = .ok (.istore_n 2, 1) := by decide +kernel
theorem dX6_ordersBorne_2 : decode cX6_ordersBorne 2 = .ok (.iconst 0, 1) := by decide +kernel
theorem dX6_ordersBorne_3 : decode cX6_ordersBorne 3 = .ok (.istore_n 3, 1) := by decide +kernel
theorem dX6_ordersBorne_4 : decode cX6_ordersBorne 4 = .ok (.iload_n 3, 1) := by decide +kernel
theorem dX6_ordersBorne_5 : decode cX6_ordersBorne 5 = .ok (.aload_n 0, 1) := by decide +kernel
theorem dX6_ordersBorne_6 : decode cX6_ordersBorne 6 = .ok (.getfield 56, 3) := by decide +kernel
theorem dX6_ordersBorne_9 : decode cX6_ordersBorne 9 = .ok (.if_icmp .ge 28, 3) := by decide +kernel
theorem dX6_ordersBorne_12 : decode cX6_ordersBorne 12 = .ok (.aload_n 0, 1) := by decide +kernel
theorem dX6_ordersBorne_13 : decode cX6_ordersBorne 13 = .ok (.getfield 25, 3) := by decide +kernel
theorem dX6_ordersBorne_16 : decode cX6_ordersBorne 16 = .ok (.iload_n 3, 1) := by decide +kernel
theorem dX6_ordersBorne_17 : decode cX6_ordersBorne 17 = .ok (.aaload, 1) := by decide +kernel
theorem dX6_ordersBorne_18 : decode cX6_ordersBorne 18 = .ok (.getfield 175, 3) := by decide +kernel
theorem dX6_ordersBorne_21 : decode cX6_ordersBorne 21 = .ok (.iload_n 1, 1) := by decide +kernel
theorem dX6_ordersBorne_22 : decode cX6_ordersBorne 22 = .ok (.if_icmp .gt 9, 3) := by decide +kernel
theorem dX6_ordersBorne_25 : decode cX6_ordersBorne 25 = .ok (.iload_n 2, 1) := by decide +kernel
theorem dX6_ordersBorne_26 : decode cX6_ordersBorne 26 = .ok (.iconst 1, 1) := by decide +kernel
theorem dX6_ordersBorne_27 : decode cX6_ordersBorne 27 = .ok (.iload_n 3, 1) := by decide +kernel
theorem dX6_ordersBorne_28 : decode cX6_ordersBorne 28 = .ok (.ishl, 1) := by decide +kernel
theorem dX6_ordersBorne_29 : decode cX6_ordersBorne 29 = .ok (.ior, 1) := by decide +kernel
theorem dX6_ordersBorne_30 : decode cX6_ordersBorne 30 = .ok (.istore_n 2, 1) := by decide +kernel
theorem dX6_ordersBorne_31 : decode cX6_ordersBorne 31 = .ok (.iinc 3 1, 3) := by decide +kernel
theorem dX6_ordersBorne_34 : decode cX6_ordersBorne 34 = .ok (.goto (-30), 3) := by decide +kernel
theorem dX6_ordersBorne_37 : decode cX6_ordersBorne 37 = .ok (.iload_n 2, 1) := by decide +kernel
theorem dX6_ordersBorne_38 : decode cX6_ordersBorne 38 = .ok (.ireturn, 1) := by decide +kernel
theorem lf_RX6_175 : gLf RX6 175 4 0 := ⟨(RX4, TX4, 3), rfl, by decide, wA_t (wt1 (List.mem_of_getElem? (i := 233) (by decide +kernel))) (by decide +kernel), rfl⟩
def rm_X6_ordersBorne : Room := { frames := 0, cells := 0, slots := 0, locals := 0 }
def b_X6_ordersBorne_4 (τ : gτ) (n : Nat) (x0 : Nat) (x1 : Int32) (x2 : Int32) (x3 : Int32) (G : gG) : Option ((Int32 × Int32) ⊕ ((Int32))) :=
  if (gi G 6 6 x0) ≤ x3 then (some (.inr x2))
  else ((gr G 6 2 x0).bind fun a1 =>
  gchk (gIn x3 (gn τ a1)) <| (gq G a1 (Int32.toNatClampNeg x3)).bind fun a2 =>
  if x1 < (gi G 4 0 a2) then (gLet (x3 + 1) fun v3 =>
  some (.inl (x2, v3)))
  else (gLet (x2 ||| ((1 : Int32) <<< (x3 &&& 31))) fun v4 =>
  gLet (x3 + 1) fun v5 =>
  some (.inl (v4, v5))))
def l_X6_ordersBorne_4 (τ : gτ) (n : Nat) (x0 : Nat) (x1 : Int32) (x2 : Int32) (x3 : Int32) (G : gG) : Option ((Int32)) :=
  gIter (fun (q : Int32 × Int32) => b_X6_ordersBorne_4 τ n x0 x1 q.1 q.2 G) n (x2, x3)
def f_X6_ordersBorne (τ : gτ) (n : Nat) (x0 : Nat) (x1 : Int32) (G : gG) : Option (Int32) :=
  (l_X6_ordersBorne_4 τ n x0 x1 (0 : Int32) (0 : Int32) G).bind fun q => gLet q fun z6 => 
  some (z6)
set_option maxHeartbeats 4000000 in
set_option maxRecDepth 100000 in
theorem w_b_X6_ordersBorne_4 {X : gX} {τ : gτ} {p : Program} {l : Launch} {e : Env} {s : State} {m : MethodId} {args : Array Value} {below : List Frame} {meth : Method} {c : Code} (fx : gFx X p s m args meth c cX6_ordersBorne 4 RX6) (n : Nat) (x0 : Nat) (x1 : Int32) (x2 : Int32) (x3 : Int32) (h0 : gK τ x0 6) {Q : State → Prop} {K : ((Int32 × Int32) ⊕ ((Int32))) → Prop} {G : gG} {H : Heap} {locs : List Loc} {ls : Array Slot} (hw : gHw X τ G H locs) (hl : lv_has ls 4 [(0, .ref x0), (1, .int x1), (2, .int x2), (3, .int x3)]) (hok : gOk (b_X6_ordersBorne_4 τ n x0 x1 x2 x3 G) K) (hc : ∀ (y2 : Int32) (y3 : Int32) (H : Heap) (locs : List Loc) (ls : Array Slot), gHw X τ G H locs → lv_has ls 4 [(0, .ref x0), (1, .int x1), (2, .int y2), (3, .int y3)] → K (.inl (y2, y3)) → W p l e rm_X6_ordersBorne s m args below meth c H locs 0 0 Q (F0 m 4 ls [])) (hx0 : ∀ (y2 : Int32) (H : Heap) (locs : List Loc) (ls : Array Slot), gHw X τ G H locs → lv_has ls 4 [(2, .int y2)] → K (.inr y2) → W p l e rm_X6_ordersBorne s m args below meth c H locs 0 0 Q (F0 m 37 ls [])) : W p l e rm_X6_ordersBorne s m args below meth c H locs 0 0 Q (F0 m 4 ls []) := by
  unfold b_X6_ordersBorne_4 at hok
  refine lv_iload_n fx.1 fx.2.1 dX6_ordersBorne_4 rfl (lv_at hl 3 rfl) ?_
  refine lv_aload_n fx.1 fx.2.1 dX6_ordersBorne_5 rfl (lv_at hl 0 rfl) ?_
  refine g_geti fx hw h0 lf_RX6_56 rfl dX6_ordersBorne_6 ?_
  refine g_icmp_ge (tgt := 37) fx dX6_ordersBorne_9 (by decide) hok (fun hok => ?_) (fun hok => ?_)
  · exact hx0 x2  _ _ _  hw (lv_sub hl [2] rfl) (gOk_some hok)
  · refine lv_aload_n fx.1 fx.2.1 dX6_ordersBorne_12 rfl (lv_at hl 0 rfl) ?_
    refine g_getr fx hw h0 lf_RX6_25 rfl dX6_ordersBorne_13 hok (fun a1 h_a1 hok => ?_)
    refine lv_iload_n fx.1 fx.2.1 dX6_ordersBorne_16 rfl (lv_at hl 3 rfl) ?_
    refine g_aald fx hw 14 2 h_a1 (by decide) (by decide) rfl (κ' := 4) rfl dX6_ordersBorne_17 hok (fun a2 h_a2 hok => ?_)
    refine g_geti fx hw h_a2 lf_RX6_175 rfl dX6_ordersBorne_18 ?_
    refine lv_iload_n fx.1 fx.2.1 dX6_ordersBorne_21 rfl (lv_at hl 1 rfl) ?_
    refine g_icmp_gt (tgt := 31) fx dX6_ordersBorne_22 (by decide) hok (fun hok => ?_) (fun hok => ?_)
    · obtain ⟨v3, e_v3, hok⟩ := gOk_let hok
      refine lv_iinc (v := v3) (lv' := [(3, .int v3), (0, .ref x0), (1, .int x1), (2, .int x2)]) fx.1 fx.2.1 dX6_ordersBorne_31 hl (k := 3) rfl (by rw [e_v3]; rfl) (by decide) rfl (fun ls hl => ?_)
      refine lv_goto (tgt := 4) fx.1 fx.2.1 dX6_ordersBorne_34 (by decide) ?_
      exact hc x2 v3  _ _ _  hw (lv_sub hl [1, 2, 3, 0] rfl) (gOk_some hok)
    · refine lv_iload_n fx.1 fx.2.1 dX6_ordersBorne_25 rfl (lv_at hl 2 rfl) ?_
      refine lv_iconst (v := 1) fx.1 fx.2.1 dX6_ordersBorne_26 (by decide) ?_
      refine lv_iload_n fx.1 fx.2.1 dX6_ordersBorne_27 rfl (lv_at hl 3 rfl) ?_
      refine lv_ishl fx.1 fx.2.1 dX6_ordersBorne_28 ?_
      refine lv_ior fx.1 fx.2.1 dX6_ordersBorne_29 ?_
      refine g_leti hok (fun v4 hok => ?_)
      refine lv_istore_n (lv' := [(2, .int v4), (0, .ref x0), (1, .int x1), (3, .int x3)]) fx.1 fx.2.1 dX6_ordersBorne_30 rfl hl (by decide) rfl (fun ls hl => ?_)
      obtain ⟨v5, e_v5, hok⟩ := gOk_let hok
      refine lv_iinc (v := v5) (lv' := [(3, .int v5), (2, .int v4), (0, .ref x0), (1, .int x1)]) fx.1 fx.2.1 dX6_ordersBorne_31 hl (k := 3) rfl (by rw [e_v5]; rfl) (by decide) rfl (fun ls hl => ?_)
      refine lv_goto (tgt := 4) fx.1 fx.2.1 dX6_ordersBorne_34 (by decide) ?_
      exact hc v4 v5  _ _ _  hw (lv_sub hl [2, 3, 1, 0] rfl) (gOk_some hok)
theorem w_l_X6_ordersBorne_4 {X : gX} {τ : gτ} {p : Program} {l : Launch} {e : Env} {s : State} {m : MethodId} {args : Array Value} {below : List Frame} {meth : Method} {c : Code} (fx : gFx X p s m args meth c cX6_ordersBorne 4 RX6) (n : Nat) (x0 : Nat) (x1 : Int32) (h0 : gK τ x0 6) (G : gG) {Q : State → Prop} {K : ((Int32)) → Prop} (hx0 : ∀ (y2 : Int32) (H : Heap) (locs : List Loc) (ls : Array Slot), gHw X τ G H locs → lv_has ls 4 [(2, .int y2)] → K y2 → W p l e rm_X6_ordersBorne s m args below meth c H locs 0 0 Q (F0 m 37 ls [])) : ∀ (k : Nat) (x2 : Int32) (x3 : Int32) (H : Heap) (locs : List Loc) (ls : Array Slot), gHw X τ G H locs → lv_has ls 4 [(0, .ref x0), (1, .int x1), (2, .int x2), (3, .int x3)] → gOk (gIter (fun (q : Int32 × Int32) => b_X6_ordersBorne_4 τ n x0 x1 q.1 q.2 G) k (x2, x3)) K → W p l e rm_X6_ordersBorne s m args below meth c H locs 0 0 Q (F0 m 4 ls []) := by
  intro k
  induction k with
  | zero =>
    intro x2 x3  H locs ls hw hl hok
    exact gOk_iter0 hok
  | succ k hc =>
    intro x2 x3  H locs ls hw hl hok
    exact w_b_X6_ordersBorne_4 fx n x0 x1 x2 x3 h0 hw hl (gOk_iter hok) hc hx0
set_option maxHeartbeats 4000000 in
set_option maxRecDepth 100000 in
theorem c_X6_ordersBorne (l : Launch) (X : gX) (τ : gτ) (n : Nat) (x0 : Nat) (x1 : Int32) (G : gG) (h0 : gK τ x0 6) {r : Int32}  (h : f_X6_ordersBorne τ n x0 x1 G = some r) : gM l X τ yX6_ordersBorne cX6_ordersBorne 4 (some .int) rm_X6_ordersBorne [.ref x0, .int x1] G (some (.int r)) G := by
  refine g_body (by decide +kernel) (Nat.le_of_ble_eq_true rfl) ?_
  intro p e s m args below meth c ls fx hr hw hl
  have fx : gFx X p s m args meth c cX6_ordersBorne 4 RX6 := fx
  have hl : lv_has ls 4 [(0, .ref x0), (1, .int x1)] := hl
  have hok : gOk (f_X6_ordersBorne τ n x0 x1 G) (fun q => q = r) := ⟨_, h, rfl⟩
  unfold f_X6_ordersBorne at hok
  show W p l e rm_X6_ordersBorne s m args below meth c s.heap [] 0 0 (MQ below (gQ X τ (some (.int r)) G) args s 0 0 (gFree X)) _
  refine lv_iconst (v := 0) fx.1 fx.2.1 dX6_ordersBorne_0 (by decide) ?_
  refine lv_istore_n (lv' := [(2, .int (0 : Int32)), (0, .ref x0), (1, .int x1)]) fx.1 fx.2.1 dX6_ordersBorne_1 rfl hl (by decide) rfl (fun ls hl => ?_)
  refine lv_iconst (v := 0) fx.1 fx.2.1 dX6_ordersBorne_2 (by decide) ?_
  refine lv_istore_n (lv' := [(3, .int (0 : Int32)), (2, .int (0 : Int32)), (0, .ref x0), (1, .int x1)]) fx.1 fx.2.1 dX6_ordersBorne_3 rfl hl (by decide) rfl (fun ls hl => ?_)
  refine w_l_X6_ordersBorne_4 fx n x0 x1 h0 G ?_ n (0 : Int32) (0 : Int32)  _ _ _  hw (lv_sub hl [2, 3, 1, 0] rfl) (gOk_bindK hok)
  intro z6  H locs ls hw hl hok
  have hok : gOk (ρ := Int32) (some (z6)) _ := hok
  refine lv_iload_n fx.1 fx.2.1 dX6_ordersBorne_37 rfl (lv_at hl 0 rfl) ?_
  cases gOk_some hok
  exact g_iret fx hw hr dX6_ordersBorne_38
theorem dX6_payOf_0 : decode cX6_payOf 0 = .ok (.iconst 0, 1) := by decide +kernel
theorem dX6_payOf_1 : decode cX6_payOf 1 = .ok (.istore_n 2, 1) := by decide +kernel
theorem dX6_payOf_2 : decode cX6_payOf 2 = .ok (.iconst 0, 1) := by decide +kernel
theorem dX6_payOf_3 : decode cX6_payOf 3 = .ok (.istore_n 3, 1) := by decide +kernel
theorem dX6_payOf_4 : decode cX6_payOf 4 = .ok (.iload_n 3, 1) := by decide +kernel
theorem dX6_payOf_5 : decode cX6_payOf 5 = .ok (.aload_n 0, 1) := by decide +kernel
theorem dX6_payOf_6 : decode cX6_payOf 6 = .ok (.getfield 56, 3) := by decide +kernel
theorem dX6_payOf_9 : decode cX6_payOf 9 = .ok (.if_icmp .ge 30, 3) := by decide +kernel
theorem dX6_payOf_12 : decode cX6_payOf 12 = .ok (.iload_n 1, 1) := by decide +kernel
theorem dX6_payOf_13 : decode cX6_payOf 13 = .ok (.iload_n 3, 1) := by decide +kernel
theorem dX6_payOf_14 : decode cX6_payOf 14 = .ok (.ishr, 1) := by decide +kernel
theorem dX6_payOf_15 : decode cX6_payOf 15 = .ok (.iconst 1, 1) := by decide +kernel
theorem dX6_payOf_16 : decode cX6_payOf 16 = .ok (.iand, 1) := by decide +kernel
theorem dX6_payOf_17 : decode cX6_payOf 17 = .ok (.iconst 1, 1) := by decide +kernel
theorem dX6_payOf_18 : decode cX6_payOf 18 = .ok (.if_icmp .ne 15, 3) := by decide +kernel
theorem dX6_payOf_21 : decode cX6_payOf 21 = .ok (.iload_n 2, 1) := by decide +kernel
theorem dX6_payOf_22 : decode cX6_payOf 22 = .ok (.aload_n 0, 1) := by decide +kernel
theorem dX6_payOf_23 : decode cX6_payOf 23 = .ok (.getfield 25, 3) := by decide +kernel
theorem dX6_payOf_26 : decode cX6_payOf 26 = .ok (.iload_n 3, 1) := by decide +kernel
theorem dX6_payOf_27 : decode cX6_payOf 27 = .ok (.aaload, 1) := by decide +kernel
theorem dX6_payOf_28 : decode cX6_payOf 28 = .ok (.getfield 177, 3) := by decide +kernel
theorem dX6_payOf_31 : decode cX6_payOf 31 = .ok (.iadd, 1) := by decide +kernel
theorem dX6_payOf_32 : decode cX6_payOf 32 = .ok (.istore_n 2, 1) := by decide +kernel
theorem dX6_payOf_33 : decode cX6_payOf 33 = .ok (.iinc 3 1, 3) := by decide +kernel
theorem dX6_payOf_36 : decode cX6_payOf 36 = .ok (.goto (-32), 3) := by decide +kernel
theorem dX6_payOf_39 : decode cX6_payOf 39 = .ok (.iload_n 2, 1) := by decide +kernel
theorem dX6_payOf_40 : decode cX6_payOf 40 = .ok (.ireturn, 1) := by decide +kernel
theorem lf_RX6_177 : gLf RX6 177 4 2 := ⟨(RX4, TX4, 3), rfl, by decide, wA_t (wt1 (List.mem_of_getElem? (i := 239) (by decide +kernel))) (by decide +kernel), rfl⟩
def rm_X6_payOf : Room := { frames := 0, cells := 0, slots := 0, locals := 0 }
def b_X6_payOf_4 (τ : gτ) (n : Nat) (x0 : Nat) (x1 : Int32) (x2 : Int32) (x3 : Int32) (G : gG) : Option ((Int32 × Int32) ⊕ ((Int32))) :=
  if (gi G 6 6 x0) ≤ x3 then (some (.inr x2))
  else (if ((x1 >>> (x3 &&& 31)) &&& (1 : Int32)) = (1 : Int32) then ((gr G 6 2 x0).bind fun a1 =>
  gchk (gIn x3 (gn τ a1)) <| (gq G a1 (Int32.toNatClampNeg x3)).bind fun a2 =>
  gLet (x2 + (gi G 4 2 a2)) fun v3 =>
  gLet (x3 + 1) fun v4 =>
  some (.inl (v3, v4)))
  else (gLet (x3 + 1) fun v5 =>
  some (.inl (x2, v5))))
def l_X6_payOf_4 (τ : gτ) (n : Nat) (x0 : Nat) (x1 : Int32) (x2 : Int32) (x3 : Int32) (G : gG) : Option ((Int32)) :=
  gIter (fun (q : Int32 × Int32) => b_X6_payOf_4 τ n x0 x1 q.1 q.2 G) n (x2, x3)
def f_X6_payOf (τ : gτ) (n : Nat) (x0 : Nat) (x1 : Int32) (G : gG) : Option (Int32) :=
  (l_X6_payOf_4 τ n x0 x1 (0 : Int32) (0 : Int32) G).bind fun q => gLet q fun z6 => 
  some (z6)
set_option maxHeartbeats 4000000 in
set_option maxRecDepth 100000 in
theorem w_b_X6_payOf_4 {X : gX} {τ : gτ} {p : Program} {l : Launch} {e : Env} {s : State} {m : MethodId} {args : Array Value} {below : List Frame} {meth : Method} {c : Code} (fx : gFx X p s m args meth c cX6_payOf 4 RX6) (n : Nat) (x0 : Nat) (x1 : Int32) (x2 : Int32) (x3 : Int32) (h0 : gK τ x0 6) {Q : State → Prop} {K : ((Int32 × Int32) ⊕ ((Int32))) → Prop} {G : gG} {H : Heap} {locs : List Loc} {ls : Array Slot} (hw : gHw X τ G H locs) (hl : lv_has ls 4 [(0, .ref x0), (1, .int x1), (2, .int x2), (3, .int x3)]) (hok : gOk (b_X6_payOf_4 τ n x0 x1 x2 x3 G) K) (hc : ∀ (y2 : Int32) (y3 : Int32) (H : Heap) (locs : List Loc) (ls : Array Slot), gHw X τ G H locs → lv_has ls 4 [(0, .ref x0), (1, .int x1), (2, .int y2), (3, .int y3)] → K (.inl (y2, y3)) → W p l e rm_X6_payOf s m args below meth c H locs 0 0 Q (F0 m 4 ls [])) (hx0 : ∀ (y2 : Int32) (H : Heap) (locs : List Loc) (ls : Array Slot), gHw X τ G H locs → lv_has ls 4 [(2, .int y2)] → K (.inr y2) → W p l e rm_X6_payOf s m args below meth c H locs 0 0 Q (F0 m 39 ls [])) : W p l e rm_X6_payOf s m args below meth c H locs 0 0 Q (F0 m 4 ls []) := by
  unfold b_X6_payOf_4 at hok
  refine lv_iload_n fx.1 fx.2.1 dX6_payOf_4 rfl (lv_at hl 3 rfl) ?_
  refine lv_aload_n fx.1 fx.2.1 dX6_payOf_5 rfl (lv_at hl 0 rfl) ?_
  refine g_geti fx hw h0 lf_RX6_56 rfl dX6_payOf_6 ?_
  refine g_icmp_ge (tgt := 39) fx dX6_payOf_9 (by decide) hok (fun hok => ?_) (fun hok => ?_)
  · exact hx0 x2  _ _ _  hw (lv_sub hl [2] rfl) (gOk_some hok)
  · refine lv_iload_n fx.1 fx.2.1 dX6_payOf_12 rfl (lv_at hl 1 rfl) ?_
    refine lv_iload_n fx.1 fx.2.1 dX6_payOf_13 rfl (lv_at hl 3 rfl) ?_
    refine lv_ishr fx.1 fx.2.1 dX6_payOf_14 ?_
    refine lv_iconst (v := 1) fx.1 fx.2.1 dX6_payOf_15 (by decide) ?_
    refine lv_iand fx.1 fx.2.1 dX6_payOf_16 ?_
    refine lv_iconst (v := 1) fx.1 fx.2.1 dX6_payOf_17 (by decide) ?_
    refine g_icmp_ne (tgt := 33) fx dX6_payOf_18 (by decide) hok (fun hok => ?_) (fun hok => ?_)
    · refine lv_iload_n fx.1 fx.2.1 dX6_payOf_21 rfl (lv_at hl 2 rfl) ?_
      refine lv_aload_n fx.1 fx.2.1 dX6_payOf_22 rfl (lv_at hl 0 rfl) ?_
      refine g_getr fx hw h0 lf_RX6_25 rfl dX6_payOf_23 hok (fun a1 h_a1 hok => ?_)
      refine lv_iload_n fx.1 fx.2.1 dX6_payOf_26 rfl (lv_at hl 3 rfl) ?_
      refine g_aald fx hw 14 2 h_a1 (by decide) (by decide) rfl (κ' := 4) rfl dX6_payOf_27 hok (fun a2 h_a2 hok => ?_)
      refine g_geti fx hw h_a2 lf_RX6_177 rfl dX6_payOf_28 ?_
      refine lv_iadd fx.1 fx.2.1 dX6_payOf_31 ?_
      refine g_leti hok (fun v3 hok => ?_)
      refine lv_istore_n (lv' := [(2, .int v3), (0, .ref x0), (1, .int x1), (3, .int x3)]) fx.1 fx.2.1 dX6_payOf_32 rfl hl (by decide) rfl (fun ls hl => ?_)
      obtain ⟨v4, e_v4, hok⟩ := gOk_let hok
      refine lv_iinc (v := v4) (lv' := [(3, .int v4), (2, .int v3), (0, .ref x0), (1, .int x1)]) fx.1 fx.2.1 dX6_payOf_33 hl (k := 3) rfl (by rw [e_v4]; rfl) (by decide) rfl (fun ls hl => ?_)
      refine lv_goto (tgt := 4) fx.1 fx.2.1 dX6_payOf_36 (by decide) ?_
      exact hc v3 v4  _ _ _  hw (lv_sub hl [2, 3, 1, 0] rfl) (gOk_some hok)
    · obtain ⟨v5, e_v5, hok⟩ := gOk_let hok
      refine lv_iinc (v := v5) (lv' := [(3, .int v5), (0, .ref x0), (1, .int x1), (2, .int x2)]) fx.1 fx.2.1 dX6_payOf_33 hl (k := 3) rfl (by rw [e_v5]; rfl) (by decide) rfl (fun ls hl => ?_)
      refine lv_goto (tgt := 4) fx.1 fx.2.1 dX6_payOf_36 (by decide) ?_
      exact hc x2 v5  _ _ _  hw (lv_sub hl [1, 2, 3, 0] rfl) (gOk_some hok)
theorem w_l_X6_payOf_4 {X : gX} {τ : gτ} {p : Program} {l : Launch} {e : Env} {s : State} {m : MethodId} {args : Array Value} {below : List Frame} {meth : Method} {c : Code} (fx : gFx X p s m args meth c cX6_payOf 4 RX6) (n : Nat) (x0 : Nat) (x1 : Int32) (h0 : gK τ x0 6) (G : gG) {Q : State → Prop} {K : ((Int32)) → Prop} (hx0 : ∀ (y2 : Int32) (H : Heap) (locs : List Loc) (ls : Array Slot), gHw X τ G H locs → lv_has ls 4 [(2, .int y2)] → K y2 → W p l e rm_X6_payOf s m args below meth c H locs 0 0 Q (F0 m 39 ls [])) : ∀ (k : Nat) (x2 : Int32) (x3 : Int32) (H : Heap) (locs : List Loc) (ls : Array Slot), gHw X τ G H locs → lv_has ls 4 [(0, .ref x0), (1, .int x1), (2, .int x2), (3, .int x3)] → gOk (gIter (fun (q : Int32 × Int32) => b_X6_payOf_4 τ n x0 x1 q.1 q.2 G) k (x2, x3)) K → W p l e rm_X6_payOf s m args below meth c H locs 0 0 Q (F0 m 4 ls []) := by
  intro k
  induction k with
  | zero =>
    intro x2 x3  H locs ls hw hl hok
    exact gOk_iter0 hok
  | succ k hc =>
    intro x2 x3  H locs ls hw hl hok
    exact w_b_X6_payOf_4 fx n x0 x1 x2 x3 h0 hw hl (gOk_iter hok) hc hx0
set_option maxHeartbeats 4000000 in
set_option maxRecDepth 100000 in
theorem c_X6_payOf (l : Launch) (X : gX) (τ : gτ) (n : Nat) (x0 : Nat) (x1 : Int32) (G : gG) (h0 : gK τ x0 6) {r : Int32}  (h : f_X6_payOf τ n x0 x1 G = some r) : gM l X τ yX6_payOf cX6_payOf 4 (some .int) rm_X6_payOf [.ref x0, .int x1] G (some (.int r)) G := by
  refine g_body (by decide +kernel) (Nat.le_of_ble_eq_true rfl) ?_
  intro p e s m args below meth c ls fx hr hw hl
  have fx : gFx X p s m args meth c cX6_payOf 4 RX6 := fx
  have hl : lv_has ls 4 [(0, .ref x0), (1, .int x1)] := hl
  have hok : gOk (f_X6_payOf τ n x0 x1 G) (fun q => q = r) := ⟨_, h, rfl⟩
  unfold f_X6_payOf at hok
  show W p l e rm_X6_payOf s m args below meth c s.heap [] 0 0 (MQ below (gQ X τ (some (.int r)) G) args s 0 0 (gFree X)) _
  refine lv_iconst (v := 0) fx.1 fx.2.1 dX6_payOf_0 (by decide) ?_
  refine lv_istore_n (lv' := [(2, .int (0 : Int32)), (0, .ref x0), (1, .int x1)]) fx.1 fx.2.1 dX6_payOf_1 rfl hl (by decide) rfl (fun ls hl => ?_)
  refine lv_iconst (v := 0) fx.1 fx.2.1 dX6_payOf_2 (by decide) ?_
  refine lv_istore_n (lv' := [(3, .int (0 : Int32)), (2, .int (0 : Int32)), (0, .ref x0), (1, .int x1)]) fx.1 fx.2.1 dX6_payOf_3 rfl hl (by decide) rfl (fun ls hl => ?_)
  refine w_l_X6_payOf_4 fx n x0 x1 h0 G ?_ n (0 : Int32) (0 : Int32)  _ _ _  hw (lv_sub hl [2, 3, 1, 0] rfl) (gOk_bindK hok)
  intro z6  H locs ls hw hl hok
  have hok : gOk (ρ := Int32) (some (z6)) _ := hok
  refine lv_iload_n fx.1 fx.2.1 dX6_payOf_39 rfl (lv_at hl 0 rfl) ?_
  cases gOk_some hok
  exact g_iret fx hw hr dX6_payOf_40
theorem dX6_fathomsOf_0 : decode cX6_fathomsOf 0 = .ok (.iconst 0, 1) := by decide +kernel
theorem dX6_fathomsOf_1 : decode cX6_fathomsOf 1 = .ok (.istore_n 2, 1) := by decide +kernel
theorem dX6_fathomsOf_2 : decode cX6_fathomsOf 2 = .ok (.iconst 0, 1) := by decide +kernel
theorem dX6_fathomsOf_3 : decode cX6_fathomsOf 3 = .ok (.istore_n 3, 1) := by decide +kernel
theorem dX6_fathomsOf_4 : decode cX6_fathomsOf 4 = .ok (.iload_n 3, 1) := by decide +kernel
theorem dX6_fathomsOf_5 : decode cX6_fathomsOf 5 = .ok (.aload_n 0, 1) := by decide +kernel
theorem dX6_fathomsOf_6 : decode cX6_fathomsOf 6 = .ok (.getfield 56, 3) := by decide +kernel
theorem dX6_fathomsOf_9 : decode cX6_fathomsOf 9 = .ok (.if_icmp .ge 30, 3) := by decide +kernel
theorem dX6_fathomsOf_12 : decode cX6_fathomsOf 12 = .ok (.iload_n 1, 1) := by decide +kernel
theorem dX6_fathomsOf_13 : decode cX6_fathomsOf 13 = .ok (.iload_n 3, 1) := by decide +kernel
theorem dX6_fathomsOf_14 : decode cX6_fathomsOf 14 = .ok (.ishr, 1) := by decide +kernel
theorem dX6_fathomsOf_15 : decode cX6_fathomsOf 15 = .ok (.iconst 1, 1) := by decide +kernel
theorem dX6_fathomsOf_16 : decode cX6_fathomsOf 16 = .ok (.iand, 1) := by decide +kernel
theorem dX6_fathomsOf_17 : decode cX6_fathomsOf 17 = .ok (.iconst 1, 1) := by decide +kernel
theorem dX6_fathomsOf_18 : decode cX6_fathomsOf 18 = .ok (.if_icmp .ne 15, 3) := by decide +kernel
theorem dX6_fathomsOf_21 : decode cX6_fathomsOf 21 = .ok (.iload_n 2, 1) := by decide +kernel
theorem dX6_fathomsOf_22 : decode cX6_fathomsOf 22 = .ok (.aload_n 0, 1) := by decide +kernel
theorem dX6_fathomsOf_23 : decode cX6_fathomsOf 23 = .ok (.getfield 25, 3) := by decide +kernel
theorem dX6_fathomsOf_26 : decode cX6_fathomsOf 26 = .ok (.iload_n 3, 1) := by decide +kernel
theorem dX6_fathomsOf_27 : decode cX6_fathomsOf 27 = .ok (.aaload, 1) := by decide +kernel
theorem dX6_fathomsOf_28 : decode cX6_fathomsOf 28 = .ok (.getfield 176, 3) := by decide +kernel
theorem dX6_fathomsOf_31 : decode cX6_fathomsOf 31 = .ok (.iadd, 1) := by decide +kernel
theorem dX6_fathomsOf_32 : decode cX6_fathomsOf 32 = .ok (.istore_n 2, 1) := by decide +kernel
theorem dX6_fathomsOf_33 : decode cX6_fathomsOf 33 = .ok (.iinc 3 1, 3) := by decide +kernel
theorem dX6_fathomsOf_36 : decode cX6_fathomsOf 36 = .ok (.goto (-32), 3) := by decide +kernel
theorem dX6_fathomsOf_39 : decode cX6_fathomsOf 39 = .ok (.iload_n 2, 1) := by decide +kernel
theorem dX6_fathomsOf_40 : decode cX6_fathomsOf 40 = .ok (.ireturn, 1) := by decide +kernel
theorem lf_RX6_176 : gLf RX6 176 4 1 := ⟨(RX4, TX4, 3), rfl, by decide, wA_t (wt1 (List.mem_of_getElem? (i := 236) (by decide +kernel))) (by decide +kernel), rfl⟩
def rm_X6_fathomsOf : Room := { frames := 0, cells := 0, slots := 0, locals := 0 }
def b_X6_fathomsOf_4 (τ : gτ) (n : Nat) (x0 : Nat) (x1 : Int32) (x2 : Int32) (x3 : Int32) (G : gG) : Option ((Int32 × Int32) ⊕ ((Int32))) :=
  if (gi G 6 6 x0) ≤ x3 then (some (.inr x2))
  else (if ((x1 >>> (x3 &&& 31)) &&& (1 : Int32)) = (1 : Int32) then ((gr G 6 2 x0).bind fun a1 =>
  gchk (gIn x3 (gn τ a1)) <| (gq G a1 (Int32.toNatClampNeg x3)).bind fun a2 =>
  gLet (x2 + (gi G 4 1 a2)) fun v3 =>
  gLet (x3 + 1) fun v4 =>
  some (.inl (v3, v4)))
  else (gLet (x3 + 1) fun v5 =>
  some (.inl (x2, v5))))
def l_X6_fathomsOf_4 (τ : gτ) (n : Nat) (x0 : Nat) (x1 : Int32) (x2 : Int32) (x3 : Int32) (G : gG) : Option ((Int32)) :=
  gIter (fun (q : Int32 × Int32) => b_X6_fathomsOf_4 τ n x0 x1 q.1 q.2 G) n (x2, x3)
def f_X6_fathomsOf (τ : gτ) (n : Nat) (x0 : Nat) (x1 : Int32) (G : gG) : Option (Int32) :=
  (l_X6_fathomsOf_4 τ n x0 x1 (0 : Int32) (0 : Int32) G).bind fun q => gLet q fun z6 => 
  some (z6)
set_option maxHeartbeats 4000000 in
set_option maxRecDepth 100000 in
theorem w_b_X6_fathomsOf_4 {X : gX} {τ : gτ} {p : Program} {l : Launch} {e : Env} {s : State} {m : MethodId} {args : Array Value} {below : List Frame} {meth : Method} {c : Code} (fx : gFx X p s m args meth c cX6_fathomsOf 4 RX6) (n : Nat) (x0 : Nat) (x1 : Int32) (x2 : Int32) (x3 : Int32) (h0 : gK τ x0 6) {Q : State → Prop} {K : ((Int32 × Int32) ⊕ ((Int32))) → Prop} {G : gG} {H : Heap} {locs : List Loc} {ls : Array Slot} (hw : gHw X τ G H locs) (hl : lv_has ls 4 [(0, .ref x0), (1, .int x1), (2, .int x2), (3, .int x3)]) (hok : gOk (b_X6_fathomsOf_4 τ n x0 x1 x2 x3 G) K) (hc : ∀ (y2 : Int32) (y3 : Int32) (H : Heap) (locs : List Loc) (ls : Array Slot), gHw X τ G H locs → lv_has ls 4 [(0, .ref x0), (1, .int x1), (2, .int y2), (3, .int y3)] → K (.inl (y2, y3)) → W p l e rm_X6_fathomsOf s m args below meth c H locs 0 0 Q (F0 m 4 ls [])) (hx0 : ∀ (y2 : Int32) (H : Heap) (locs : List Loc) (ls : Array Slot), gHw X τ G H locs → lv_has ls 4 [(2, .int y2)] → K (.inr y2) → W p l e rm_X6_fathomsOf s m args below meth c H locs 0 0 Q (F0 m 39 ls [])) : W p l e rm_X6_fathomsOf s m args below meth c H locs 0 0 Q (F0 m 4 ls []) := by
  unfold b_X6_fathomsOf_4 at hok
  refine lv_iload_n fx.1 fx.2.1 dX6_fathomsOf_4 rfl (lv_at hl 3 rfl) ?_
  refine lv_aload_n fx.1 fx.2.1 dX6_fathomsOf_5 rfl (lv_at hl 0 rfl) ?_
  refine g_geti fx hw h0 lf_RX6_56 rfl dX6_fathomsOf_6 ?_
  refine g_icmp_ge (tgt := 39) fx dX6_fathomsOf_9 (by decide) hok (fun hok => ?_) (fun hok => ?_)
  · exact hx0 x2  _ _ _  hw (lv_sub hl [2] rfl) (gOk_some hok)
  · refine lv_iload_n fx.1 fx.2.1 dX6_fathomsOf_12 rfl (lv_at hl 1 rfl) ?_
    refine lv_iload_n fx.1 fx.2.1 dX6_fathomsOf_13 rfl (lv_at hl 3 rfl) ?_
    refine lv_ishr fx.1 fx.2.1 dX6_fathomsOf_14 ?_
    refine lv_iconst (v := 1) fx.1 fx.2.1 dX6_fathomsOf_15 (by decide) ?_
    refine lv_iand fx.1 fx.2.1 dX6_fathomsOf_16 ?_
    refine lv_iconst (v := 1) fx.1 fx.2.1 dX6_fathomsOf_17 (by decide) ?_
    refine g_icmp_ne (tgt := 33) fx dX6_fathomsOf_18 (by decide) hok (fun hok => ?_) (fun hok => ?_)
    · refine lv_iload_n fx.1 fx.2.1 dX6_fathomsOf_21 rfl (lv_at hl 2 rfl) ?_
      refine lv_aload_n fx.1 fx.2.1 dX6_fathomsOf_22 rfl (lv_at hl 0 rfl) ?_
      refine g_getr fx hw h0 lf_RX6_25 rfl dX6_fathomsOf_23 hok (fun a1 h_a1 hok => ?_)
      refine lv_iload_n fx.1 fx.2.1 dX6_fathomsOf_26 rfl (lv_at hl 3 rfl) ?_
      refine g_aald fx hw 14 2 h_a1 (by decide) (by decide) rfl (κ' := 4) rfl dX6_fathomsOf_27 hok (fun a2 h_a2 hok => ?_)
      refine g_geti fx hw h_a2 lf_RX6_176 rfl dX6_fathomsOf_28 ?_
      refine lv_iadd fx.1 fx.2.1 dX6_fathomsOf_31 ?_
      refine g_leti hok (fun v3 hok => ?_)
      refine lv_istore_n (lv' := [(2, .int v3), (0, .ref x0), (1, .int x1), (3, .int x3)]) fx.1 fx.2.1 dX6_fathomsOf_32 rfl hl (by decide) rfl (fun ls hl => ?_)
      obtain ⟨v4, e_v4, hok⟩ := gOk_let hok
      refine lv_iinc (v := v4) (lv' := [(3, .int v4), (2, .int v3), (0, .ref x0), (1, .int x1)]) fx.1 fx.2.1 dX6_fathomsOf_33 hl (k := 3) rfl (by rw [e_v4]; rfl) (by decide) rfl (fun ls hl => ?_)
      refine lv_goto (tgt := 4) fx.1 fx.2.1 dX6_fathomsOf_36 (by decide) ?_
      exact hc v3 v4  _ _ _  hw (lv_sub hl [2, 3, 1, 0] rfl) (gOk_some hok)
    · obtain ⟨v5, e_v5, hok⟩ := gOk_let hok
      refine lv_iinc (v := v5) (lv' := [(3, .int v5), (0, .ref x0), (1, .int x1), (2, .int x2)]) fx.1 fx.2.1 dX6_fathomsOf_33 hl (k := 3) rfl (by rw [e_v5]; rfl) (by decide) rfl (fun ls hl => ?_)
      refine lv_goto (tgt := 4) fx.1 fx.2.1 dX6_fathomsOf_36 (by decide) ?_
      exact hc x2 v5  _ _ _  hw (lv_sub hl [1, 2, 3, 0] rfl) (gOk_some hok)
theorem w_l_X6_fathomsOf_4 {X : gX} {τ : gτ} {p : Program} {l : Launch} {e : Env} {s : State} {m : MethodId} {args : Array Value} {below : List Frame} {meth : Method} {c : Code} (fx : gFx X p s m args meth c cX6_fathomsOf 4 RX6) (n : Nat) (x0 : Nat) (x1 : Int32) (h0 : gK τ x0 6) (G : gG) {Q : State → Prop} {K : ((Int32)) → Prop} (hx0 : ∀ (y2 : Int32) (H : Heap) (locs : List Loc) (ls : Array Slot), gHw X τ G H locs → lv_has ls 4 [(2, .int y2)] → K y2 → W p l e rm_X6_fathomsOf s m args below meth c H locs 0 0 Q (F0 m 39 ls [])) : ∀ (k : Nat) (x2 : Int32) (x3 : Int32) (H : Heap) (locs : List Loc) (ls : Array Slot), gHw X τ G H locs → lv_has ls 4 [(0, .ref x0), (1, .int x1), (2, .int x2), (3, .int x3)] → gOk (gIter (fun (q : Int32 × Int32) => b_X6_fathomsOf_4 τ n x0 x1 q.1 q.2 G) k (x2, x3)) K → W p l e rm_X6_fathomsOf s m args below meth c H locs 0 0 Q (F0 m 4 ls []) := by
  intro k
  induction k with
  | zero =>
    intro x2 x3  H locs ls hw hl hok
    exact gOk_iter0 hok
  | succ k hc =>
    intro x2 x3  H locs ls hw hl hok
    exact w_b_X6_fathomsOf_4 fx n x0 x1 x2 x3 h0 hw hl (gOk_iter hok) hc hx0
set_option maxHeartbeats 4000000 in
set_option maxRecDepth 100000 in
theorem c_X6_fathomsOf (l : Launch) (X : gX) (τ : gτ) (n : Nat) (x0 : Nat) (x1 : Int32) (G : gG) (h0 : gK τ x0 6) {r : Int32}  (h : f_X6_fathomsOf τ n x0 x1 G = some r) : gM l X τ yX6_fathomsOf cX6_fathomsOf 4 (some .int) rm_X6_fathomsOf [.ref x0, .int x1] G (some (.int r)) G := by
  refine g_body (by decide +kernel) (Nat.le_of_ble_eq_true rfl) ?_
  intro p e s m args below meth c ls fx hr hw hl
  have fx : gFx X p s m args meth c cX6_fathomsOf 4 RX6 := fx
  have hl : lv_has ls 4 [(0, .ref x0), (1, .int x1)] := hl
  have hok : gOk (f_X6_fathomsOf τ n x0 x1 G) (fun q => q = r) := ⟨_, h, rfl⟩
  unfold f_X6_fathomsOf at hok
  show W p l e rm_X6_fathomsOf s m args below meth c s.heap [] 0 0 (MQ below (gQ X τ (some (.int r)) G) args s 0 0 (gFree X)) _
  refine lv_iconst (v := 0) fx.1 fx.2.1 dX6_fathomsOf_0 (by decide) ?_
  refine lv_istore_n (lv' := [(2, .int (0 : Int32)), (0, .ref x0), (1, .int x1)]) fx.1 fx.2.1 dX6_fathomsOf_1 rfl hl (by decide) rfl (fun ls hl => ?_)
  refine lv_iconst (v := 0) fx.1 fx.2.1 dX6_fathomsOf_2 (by decide) ?_
  refine lv_istore_n (lv' := [(3, .int (0 : Int32)), (2, .int (0 : Int32)), (0, .ref x0), (1, .int x1)]) fx.1 fx.2.1 dX6_fathomsOf_3 rfl hl (by decide) rfl (fun ls hl => ?_)
  refine w_l_X6_fathomsOf_4 fx n x0 x1 h0 G ?_ n (0 : Int32) (0 : Int32)  _ _ _  hw (lv_sub hl [2, 3, 1, 0] rfl) (gOk_bindK hok)
  intro z6  H locs ls hw hl hok
  have hok : gOk (ρ := Int32) (some (z6)) _ := hok
  refine lv_iload_n fx.1 fx.2.1 dX6_fathomsOf_39 rfl (lv_at hl 0 rfl) ?_
  cases gOk_some hok
  exact g_iret fx hw hr dX6_fathomsOf_40
theorem dX6_draw_0 : decode cX6_draw 0 = .ok (.aload_n 0, 1) := by decide +kernel
theorem dX6_draw_1 : decode cX6_draw 1 = .ok (.ldc 194, 2) := by decide +kernel
theorem dX6_draw_3 : decode cX6_draw 3 = .ok (.aload_n 0, 1) := by decide +kernel
theorem dX6_draw_4 : decode cX6_draw 4 = .ok (.getfield 36, 3) := by decide +kernel
theorem dX6_draw_7 : decode cX6_draw 7 = .ok (.imul, 1) := by decide +kernel
theorem dX6_draw_8 : decode cX6_draw 8 = .ok (.sipush 12345, 3) := by decide +kernel
theorem dX6_draw_11 : decode cX6_draw 11 = .ok (.iadd, 1) := by decide +kernel
theorem dX6_draw_12 : decode cX6_draw 12 = .ok (.putfield 36, 3) := by decide +kernel
theorem dX6_draw_15 : decode cX6_draw 15 = .ok (.aload_n 0, 1) := by decide +kernel
theorem dX6_draw_16 : decode cX6_draw 16 = .ok (.getfield 36, 3) := by decide +kernel
theorem dX6_draw_19 : decode cX6_draw 19 = .ok (.bipush 16, 2) := by decide +kernel
theorem dX6_draw_21 : decode cX6_draw 21 = .ok (.iushr, 1) := by decide +kernel
theorem dX6_draw_22 : decode cX6_draw 22 = .ok (.sipush 32767, 3) := by decide +kernel
theorem dX6_draw_25 : decode cX6_draw 25 = .ok (.iand, 1) := by decide +kernel
theorem dX6_draw_26 : decode cX6_draw 26 = .ok (.ireturn, 1) := by decide +kernel
theorem lc_RX6_194 : Cond.constant RX6 194 1103515245 ∈ wA := wA_t (wt6 (List.mem_of_getElem? (i := 1) (by decide +kernel))) (by decide +kernel)
def rm_X6_draw : Room := { frames := 0, cells := 0, slots := 0, locals := 0 }
def f_X6_draw (x0 : Nat) (G : gG) : Option (Int32 × gG) :=
  gLet (gsi G 6 11 x0 (((1103515245 : Int32) * (gi G 6 11 x0)) + (12345 : Int32))) fun G1 =>
  some (((Int32.toUInt32 (gi G1 6 11 x0) >>> (Int32.toUInt32 (16 : Int32) &&& Int32.toUInt32 31)).toInt32) &&& (32767 : Int32), G1)
set_option maxHeartbeats 4000000 in
set_option maxRecDepth 100000 in
theorem c_X6_draw (l : Launch) (X : gX) (τ : gτ) (x0 : Nat) (G : gG) (h0 : gK τ x0 6) {r : Int32} {G' : gG} (h : f_X6_draw x0 G = some (r, G')) : gM l X τ yX6_draw cX6_draw 1 (some .int) rm_X6_draw [.ref x0] G (some (.int r)) G' := by
  refine g_body (by decide +kernel) (Nat.le_of_ble_eq_true rfl) ?_
  intro p e s m args below meth c ls fx hr hw hl
  have fx : gFx X p s m args meth c cX6_draw 1 RX6 := fx
  have hl : lv_has ls 1 [(0, .ref x0)] := hl
  have hok : gOk (f_X6_draw x0 G) (fun q => q = (r, G')) := ⟨_, h, rfl⟩
  unfold f_X6_draw at hok
  show W p l e rm_X6_draw s m args below meth c s.heap [] 0 0 (MQ below (gQ X τ (some (.int r)) G') args s 0 0 (gFree X)) _
  refine lv_aload_n fx.1 fx.2.1 dX6_draw_0 rfl (lv_at hl 0 rfl) ?_
  refine lv_ldc fx.1 fx.2.1 fx.2.2.2.1 (fx.2.2.2.2.1 _ lc_RX6_194) dX6_draw_1 ?_
  refine lv_aload_n fx.1 fx.2.1 dX6_draw_3 rfl (lv_at hl 0 rfl) ?_
  refine g_geti fx hw h0 lf_RX6_36 rfl dX6_draw_4 ?_
  refine lv_imul fx.1 fx.2.1 dX6_draw_7 ?_
  refine lv_sipush (v := 12345) fx.1 fx.2.1 dX6_draw_8 (by decide) ?_
  refine lv_iadd fx.1 fx.2.1 dX6_draw_11 ?_
  refine g_puti fx hw h0 lp_RX6_36 rfl rfl dX6_draw_12 hok (fun G1 H locs hw hok => ?_)
  refine lv_aload_n fx.1 fx.2.1 dX6_draw_15 rfl (lv_at hl 0 rfl) ?_
  refine g_geti fx hw h0 lf_RX6_36 rfl dX6_draw_16 ?_
  refine lv_bipush (v := 16) fx.1 fx.2.1 dX6_draw_19 (by decide) ?_
  refine lv_iushr fx.1 fx.2.1 dX6_draw_21 rfl ?_
  refine lv_sipush (v := 32767) fx.1 fx.2.1 dX6_draw_22 (by decide) ?_
  refine lv_iand fx.1 fx.2.1 dX6_draw_25 ?_
  cases gOk_some hok
  exact g_iret fx hw hr dX6_draw_26
theorem dX6_snap_0 : decode cX6_snap 0 = .ok (.aload_n 0, 1) := by decide +kernel
theorem dX6_snap_1 : decode cX6_snap 1 = .ok (.getfield 32, 3) := by decide +kernel
theorem dX6_snap_4 : decode cX6_snap 4 = .ok (.aload_n 0, 1) := by decide +kernel
theorem dX6_snap_5 : decode cX6_snap 5 = .ok (.getfield 74, 3) := by decide +kernel
theorem dX6_snap_8 : decode cX6_snap 8 = .ok (.aload_n 1, 1) := by decide +kernel
theorem dX6_snap_9 : decode cX6_snap 9 = .ok (.invokevirtual 205, 3) := by decide +kernel
theorem dX6_snap_12 : decode cX6_snap 12 = .ok (.aload_n 0, 1) := by decide +kernel
theorem dX6_snap_13 : decode cX6_snap 13 = .ok (.dup, 1) := by decide +kernel
theorem dX6_snap_14 : decode cX6_snap 14 = .ok (.getfield 80, 3) := by decide +kernel
theorem dX6_snap_17 : decode cX6_snap 17 = .ok (.aload_n 1, 1) := by decide +kernel
theorem dX6_snap_18 : decode cX6_snap 18 = .ok (.getfield 123, 3) := by decide +kernel
theorem dX6_snap_21 : decode cX6_snap 21 = .ok (.iadd, 1) := by decide +kernel
theorem dX6_snap_22 : decode cX6_snap 22 = .ok (.putfield 80, 3) := by decide +kernel
theorem dX6_snap_25 : decode cX6_snap 25 = .ok (.aload_n 0, 1) := by decide +kernel
theorem dX6_snap_26 : decode cX6_snap 26 = .ok (.dup, 1) := by decide +kernel
theorem dX6_snap_27 : decode cX6_snap 27 = .ok (.getfield 83, 3) := by decide +kernel
theorem dX6_snap_30 : decode cX6_snap 30 = .ok (.iconst 1, 1) := by decide +kernel
theorem dX6_snap_31 : decode cX6_snap 31 = .ok (.iadd, 1) := by decide +kernel
theorem dX6_snap_32 : decode cX6_snap 32 = .ok (.putfield 83, 3) := by decide +kernel
theorem dX6_snap_35 : decode cX6_snap 35 = .ok (.aload_n 1, 1) := by decide +kernel
theorem dX6_snap_36 : decode cX6_snap 36 = .ok (.iconst 0, 1) := by decide +kernel
theorem dX6_snap_37 : decode cX6_snap 37 = .ok (.putfield 123, 3) := by decide +kernel
theorem dX6_snap_40 : decode cX6_snap 40 = .ok (.aload_n 1, 1) := by decide +kernel
theorem dX6_snap_41 : decode cX6_snap 41 = .ok (.iconst 1, 1) := by decide +kernel
theorem dX6_snap_42 : decode cX6_snap 42 = .ok (.putfield 135, 3) := by decide +kernel
theorem dX6_snap_45 : decode cX6_snap 45 = .ok (.return_, 1) := by decide +kernel
theorem lv_RX6_205 : gLv RX6 205 RX0 yX0_add cX0_add 4 none 2 := gLv_of (wA_t (wt6 (List.mem_of_getElem? (i := 11) (by decide +kernel))) (by decide +kernel)) (wA_t (wt6 (List.mem_of_getElem? (i := 12) (by decide +kernel))) (by decide +kernel)) (wA_t (wt6 (List.mem_of_getElem? (i := 13) (by decide +kernel))) (by decide +kernel)) (wA_t (wt1 (List.mem_of_getElem? (i := 7) (by decide +kernel))) (by decide +kernel)) (wA_t (wt6 (List.mem_of_getElem? (i := 14) (by decide +kernel))) (by decide +kernel)) ⟨rfl, by decide +kernel, by decide +kernel, by decide +kernel⟩
theorem lp_RX6_135 : gLp RX6 135 5 9 := ⟨(RX5, TX5, 10), rfl, by decide, wA_t (wt1 (List.mem_of_getElem? (i := 204) (by decide +kernel))) (by decide +kernel), rfl, rfl⟩
def rm_X6_snap : Room := { frames := 2, cells := 0, slots := 0, locals := 44 }
def f_X6_snap (τ : gτ) (x0 : Nat) (x1 : Nat) (G : gG) : Option (gG) :=
  (gr G 6 3 x0).bind fun a1 =>
  (f_X0_add τ a1 (gi G 6 10 x0) x1 G).bind fun G2 =>
  gLet (gsi G2 6 13 x0 ((gi G2 6 13 x0) + (gi G2 5 7 x1))) fun G3 =>
  gLet (gsi G3 6 14 x0 ((gi G3 6 14 x0) + (1 : Int32))) fun G4 =>
  gLet (gsi G4 5 7 x1 (0 : Int32)) fun G5 =>
  gLet (gsi G5 5 9 x1 (1 : Int32)) fun G6 =>
  some G6
set_option maxHeartbeats 4000000 in
set_option maxRecDepth 100000 in
theorem c_X6_snap (l : Launch) (X : gX) (τ : gτ) (x0 : Nat) (x1 : Nat) (G : gG) (h0 : gK τ x0 6) (h1 : gK τ x1 5) {G' : gG} (h : f_X6_snap τ x0 x1 G = some G') : gM l X τ yX6_snap cX6_snap 2 none rm_X6_snap [.ref x0, .ref x1] G none G' := by
  refine g_body (by decide +kernel) (Nat.le_of_ble_eq_true rfl) ?_
  intro p e s m args below meth c ls fx hr hw hl
  have fx : gFx X p s m args meth c cX6_snap 2 RX6 := fx
  have hl : lv_has ls 2 [(0, .ref x0), (1, .ref x1)] := hl
  have hok : gOk (f_X6_snap τ x0 x1 G) (fun q => q = G') := ⟨_, h, rfl⟩
  unfold f_X6_snap at hok
  show W p l e rm_X6_snap s m args below meth c s.heap [] 0 0 (MQ below (gQ X τ none G') args s 0 0 (gFree X)) _
  refine lv_aload_n fx.1 fx.2.1 dX6_snap_0 rfl (lv_at hl 0 rfl) ?_
  refine g_getr fx hw h0 lf_RX6_32 rfl dX6_snap_1 hok (fun a1 h_a1 hok => ?_)
  refine lv_aload_n fx.1 fx.2.1 dX6_snap_4 rfl (lv_at hl 0 rfl) ?_
  refine g_geti fx hw h0 lf_RX6_74 rfl dX6_snap_5 ?_
  refine lv_aload_n fx.1 fx.2.1 dX6_snap_8 rfl (lv_at hl 1 rfl) ?_
  obtain ⟨G2, hf, hok⟩ := gOk_bind hok
  refine g_callV0 (κ := 0) fx hw (c_X0_add l X τ a1 (gi G 6 10 x0) x1 G h_a1 h1 hf) lv_RX6_205 ⟨rfl, rfl⟩ rfl rfl h_a1 rfl hl.1 rfl ⟨Nat.le_of_ble_eq_true rfl, Nat.le_of_ble_eq_true rfl⟩ (Nat.le_of_ble_eq_true rfl) ⟨Nat.le_of_ble_eq_true rfl, Nat.le_of_ble_eq_true rfl⟩ dX6_snap_9 (fun H locs hw => ?_)
  refine lv_aload_n fx.1 fx.2.1 dX6_snap_12 rfl (lv_at hl 0 rfl) ?_
  refine lv_dup fx.1 fx.2.1 dX6_snap_13 rfl ?_
  refine g_geti fx hw h0 lf_RX6_80 rfl dX6_snap_14 ?_
  refine lv_aload_n fx.1 fx.2.1 dX6_snap_17 rfl (lv_at hl 1 rfl) ?_
  refine g_geti fx hw h1 lf_RX6_123 rfl dX6_snap_18 ?_
  refine lv_iadd fx.1 fx.2.1 dX6_snap_21 ?_
  refine g_puti fx hw h0 lp_RX6_80 rfl rfl dX6_snap_22 hok (fun G3 H locs hw hok => ?_)
  refine lv_aload_n fx.1 fx.2.1 dX6_snap_25 rfl (lv_at hl 0 rfl) ?_
  refine lv_dup fx.1 fx.2.1 dX6_snap_26 rfl ?_
  refine g_geti fx hw h0 lf_RX6_83 rfl dX6_snap_27 ?_
  refine lv_iconst (v := 1) fx.1 fx.2.1 dX6_snap_30 (by decide) ?_
  refine lv_iadd fx.1 fx.2.1 dX6_snap_31 ?_
  refine g_puti fx hw h0 lp_RX6_83 rfl rfl dX6_snap_32 hok (fun G4 H locs hw hok => ?_)
  refine lv_aload_n fx.1 fx.2.1 dX6_snap_35 rfl (lv_at hl 1 rfl) ?_
  refine lv_iconst (v := 0) fx.1 fx.2.1 dX6_snap_36 (by decide) ?_
  refine g_puti fx hw h1 lp_RX6_123 rfl rfl dX6_snap_37 hok (fun G5 H locs hw hok => ?_)
  refine lv_aload_n fx.1 fx.2.1 dX6_snap_40 rfl (lv_at hl 1 rfl) ?_
  refine lv_iconst (v := 1) fx.1 fx.2.1 dX6_snap_41 (by decide) ?_
  refine g_putz fx hw h1 lp_RX6_135 rfl rfl (by decide) dX6_snap_42 hok (fun G6 H locs hw hok => ?_)
  cases gOk_some hok
  exact g_vret fx hw hr dX6_snap_45
theorem dX6_fray_0 : decode cX6_fray 0 = .ok (.iload_n 2, 1) := by decide +kernel
theorem dX6_fray_1 : decode cX6_fray 1 = .ok (.ifCond .eq 12, 3) := by decide +kernel
theorem dX6_fray_4 : decode cX6_fray 4 = .ok (.aload_n 1, 1) := by decide +kernel
theorem dX6_fray_5 : decode cX6_fray 5 = .ok (.getfield 123, 3) := by decide +kernel
theorem dX6_fray_8 : decode cX6_fray 8 = .ok (.iconst 2, 1) := by decide +kernel
theorem dX6_fray_9 : decode cX6_fray 9 = .ok (.imul, 1) := by decide +kernel
theorem dX6_fray_10 : decode cX6_fray 10 = .ok (.goto 7, 3) := by decide +kernel
theorem dX6_fray_13 : decode cX6_fray 13 = .ok (.aload_n 1, 1) := by decide +kernel
theorem dX6_fray_14 : decode cX6_fray 14 = .ok (.getfield 123, 3) := by decide +kernel
theorem dX6_fray_17 : decode cX6_fray 17 = .ok (.istore 4, 2) := by decide +kernel
theorem dX6_fray_19 : decode cX6_fray 19 = .ok (.iload 4, 2) := by decide +kernel
theorem dX6_fray_21 : decode cX6_fray 21 = .ok (.ifCond .le 20, 3) := by decide +kernel
theorem dX6_fray_24 : decode cX6_fray 24 = .ok (.iload 4, 2) := by decide +kernel
theorem dX6_fray_26 : decode cX6_fray 26 = .ok (.aload_n 0, 1) := by decide +kernel
theorem dX6_fray_27 : decode cX6_fray 27 = .ok (.aload_n 1, 1) := by decide +kernel
theorem dX6_fray_28 : decode cX6_fray 28 = .ok (.aload_n 3, 1) := by decide +kernel
theorem dX6_fray_29 : decode cX6_fray 29 = .ok (.invokevirtual 195, 3) := by decide +kernel
theorem dX6_fray_32 : decode cX6_fray 32 = .ok (.if_icmp .le 9, 3) := by decide +kernel
theorem dX6_fray_35 : decode cX6_fray 35 = .ok (.aload_n 0, 1) := by decide +kernel
theorem dX6_fray_36 : decode cX6_fray 36 = .ok (.aload_n 1, 1) := by decide +kernel
theorem dX6_fray_37 : decode cX6_fray 37 = .ok (.invokevirtual 199, 3) := by decide +kernel
theorem dX6_fray_40 : decode cX6_fray 40 = .ok (.return_, 1) := by decide +kernel
theorem dX6_fray_41 : decode cX6_fray 41 = .ok (.aload_n 1, 1) := by decide +kernel
theorem dX6_fray_42 : decode cX6_fray 42 = .ok (.aload_n 1, 1) := by decide +kernel
theorem dX6_fray_43 : decode cX6_fray 43 = .ok (.getfield 163, 3) := by decide +kernel
theorem dX6_fray_46 : decode cX6_fray 46 = .ok (.aload_n 0, 1) := by decide +kernel
theorem dX6_fray_47 : decode cX6_fray 47 = .ok (.aload_n 1, 1) := by decide +kernel
theorem dX6_fray_48 : decode cX6_fray 48 = .ok (.aload_n 3, 1) := by decide +kernel
theorem dX6_fray_49 : decode cX6_fray 49 = .ok (.invokevirtual 202, 3) := by decide +kernel
theorem dX6_fray_52 : decode cX6_fray 52 = .ok (.iadd, 1) := by decide +kernel
theorem dX6_fray_53 : decode cX6_fray 53 = .ok (.bipush 99, 2) := by decide +kernel
theorem dX6_fray_55 : decode cX6_fray 55 = .ok (.invokestatic 102, 3) := by decide +kernel
theorem dX6_fray_58 : decode cX6_fray 58 = .ok (.putfield 163, 3) := by decide +kernel
theorem dX6_fray_61 : decode cX6_fray 61 = .ok (.aload_n 1, 1) := by decide +kernel
theorem dX6_fray_62 : decode cX6_fray 62 = .ok (.getfield 119, 3) := by decide +kernel
theorem dX6_fray_65 : decode cX6_fray 65 = .ok (.ifCond .ne 25, 3) := by decide +kernel
theorem dX6_fray_68 : decode cX6_fray 68 = .ok (.aload_n 1, 1) := by decide +kernel
theorem dX6_fray_69 : decode cX6_fray 69 = .ok (.dup, 1) := by decide +kernel
theorem dX6_fray_70 : decode cX6_fray 70 = .ok (.getfield 116, 3) := by decide +kernel
theorem dX6_fray_73 : decode cX6_fray 73 = .ok (.iconst 1, 1) := by decide +kernel
theorem dX6_fray_74 : decode cX6_fray 74 = .ok (.isub, 1) := by decide +kernel
theorem dX6_fray_75 : decode cX6_fray 75 = .ok (.putfield 116, 3) := by decide +kernel
theorem dX6_fray_78 : decode cX6_fray 78 = .ok (.aload_n 1, 1) := by decide +kernel
theorem dX6_fray_79 : decode cX6_fray 79 = .ok (.getfield 116, 3) := by decide +kernel
theorem dX6_fray_82 : decode cX6_fray 82 = .ok (.ifCond .gt 8, 3) := by decide +kernel
theorem dX6_fray_85 : decode cX6_fray 85 = .ok (.aload_n 0, 1) := by decide +kernel
theorem dX6_fray_86 : decode cX6_fray 86 = .ok (.aload_n 1, 1) := by decide +kernel
theorem dX6_fray_87 : decode cX6_fray 87 = .ok (.invokevirtual 199, 3) := by decide +kernel
theorem dX6_fray_90 : decode cX6_fray 90 = .ok (.return_, 1) := by decide +kernel
theorem lv_RX6_202 : gLv RX6 202 RX6 yX6_wearing cX6_wearing 3 (some .int) 2 := gLv_of (wA_t (wt6 (List.mem_of_getElem? (i := 16) (by decide +kernel))) (by decide +kernel)) (wA_t (wt5 (List.mem_of_getElem? (i := 63) (by decide +kernel))) (by decide +kernel)) (wA_t (wt5 (List.mem_of_getElem? (i := 64) (by decide +kernel))) (by decide +kernel)) (wA_t (wt1 (List.mem_of_getElem? (i := 6) (by decide +kernel))) (by decide +kernel)) (wA_t (wt5 (List.mem_of_getElem? (i := 65) (by decide +kernel))) (by decide +kernel)) ⟨rfl, by decide +kernel, by decide +kernel, by decide +kernel⟩
theorem lp_RX6_163 : gLp RX6 163 5 5 := ⟨(RX5, TX5, 10), rfl, by decide, wA_t (wt1 (List.mem_of_getElem? (i := 185) (by decide +kernel))) (by decide +kernel), rfl, rfl⟩
theorem lf_RX6_119 : gLf RX6 119 5 8 := ⟨(RX5, TX5, 10), rfl, by decide, wA_t (wt1 (List.mem_of_getElem? (i := 200) (by decide +kernel))) (by decide +kernel), rfl⟩
theorem lv_RX6_199 : gLv RX6 199 RX6 yX6_snap cX6_snap 2 none 1 := gLv_of (wA_t (wt6 (List.mem_of_getElem? (i := 7) (by decide +kernel))) (by decide +kernel)) (wA_t (wt6 (List.mem_of_getElem? (i := 9) (by decide +kernel))) (by decide +kernel)) (wA_of (List.mem_append_left _ (List.mem_map.mpr ⟨(⟨"YearRope$Shed", "snap", "(LYearRope$Rope;)V"⟩, 15), wp3 (List.mem_of_getElem? (i := 0) (by decide +kernel)), rfl⟩)) (by decide +kernel)) (wA_t (wt1 (List.mem_of_getElem? (i := 6) (by decide +kernel))) (by decide +kernel)) (wA_t (wt6 (List.mem_of_getElem? (i := 10) (by decide +kernel))) (by decide +kernel)) ⟨rfl, by decide +kernel, by decide +kernel, by decide +kernel⟩
theorem lv_RX6_195 : gLv RX6 195 RX6 yX6_bearing cX6_bearing 7 (some .int) 2 := gLv_of (wA_t (wt6 (List.mem_of_getElem? (i := 6) (by decide +kernel))) (by decide +kernel)) (wA_t (wt2 (List.mem_of_getElem? (i := 201) (by decide +kernel))) (by decide +kernel)) (wA_t (wt2 (List.mem_of_getElem? (i := 202) (by decide +kernel))) (by decide +kernel)) (wA_t (wt1 (List.mem_of_getElem? (i := 6) (by decide +kernel))) (by decide +kernel)) (wA_t (wt2 (List.mem_of_getElem? (i := 203) (by decide +kernel))) (by decide +kernel)) ⟨rfl, by decide +kernel, by decide +kernel, by decide +kernel⟩
def rm_X6_fray : Room := { frames := 4, cells := 0, slots := 0, locals := 97 }
def k_X6_fray_41 (τ : gτ) (n : Nat) (x0 : Nat) (x1 : Nat) (x3 : Nat)  (G : gG) : Option (gG) :=
  gBind2 (f_X6_wearing τ n x0 x1 x3 G) fun v1 G2 =>
  gLet (gsi G2 5 5 x1 (gmin ((gi G 5 5 x1) + v1) (99 : Int32))) fun G3 =>
  if (gi G3 5 8 x1) = 0 then (gLet (gsi G3 5 3 x1 ((gi G3 5 3 x1) - (1 : Int32))) fun G4 =>
  if 0 < (gi G4 5 3 x1) then (some G4)
  else ((f_X6_snap τ x0 x1 G4).bind fun G5 =>
  some G5))
  else (some G3)
def k_X6_fray_17 (τ : gτ) (n : Nat) (x0 : Nat) (x1 : Nat) (x3 : Nat) (s0 : Int32) (G : gG) : Option (gG) :=
  if s0 ≤ 0 then (k_X6_fray_41 τ n x0 x1 x3  G)
  else (gBind2 (f_X6_bearing τ n x0 x1 x3 G) fun v6 G7 =>
  if s0 ≤ v6 then (k_X6_fray_41 τ n x0 x1 x3  G7)
  else ((f_X6_snap τ x0 x1 G7).bind fun G8 =>
  some G8))
def f_X6_fray (τ : gτ) (n : Nat) (x0 : Nat) (x1 : Nat) (x2 : Int32) (x3 : Nat) (G : gG) : Option (gG) :=
  if x2 = 0 then (k_X6_fray_17 τ n x0 x1 x3 (gi G 5 7 x1) G)
  else (k_X6_fray_17 τ n x0 x1 x3 ((gi G 5 7 x1) * (2 : Int32)) G)
set_option maxHeartbeats 4000000 in
set_option maxRecDepth 100000 in
theorem w_X6_fray_41 {X : gX} {τ : gτ} {p : Program} {l : Launch} {e : Env} {s : State} {m : MethodId} {args : Array Value} {below : List Frame} {meth : Method} {c : Code} (fx : gFx X p s m args meth c cX6_fray 5 RX6) (n : Nat) (x0 : Nat) (x1 : Nat) (x3 : Nat)  (h0 : gK τ x0 6) (h1 : gK τ x1 5) (h3 : gK τ x3 1)  (hr : meth.sig.returnType = none) {G' : gG} {G : gG} {H : Heap} {locs : List Loc} {ls : Array Slot} (hw : gHw X τ G H locs) (hl : lv_has ls 5 [(0, .ref x0), (1, .ref x1), (3, .ref x3)]) (hok : gOk (k_X6_fray_41 τ n x0 x1 x3  G) (fun q => q = G'))  : W p l e rm_X6_fray s m args below meth c H locs 0 0 (MQ below (gQ X τ none G') args s 0 0 (gFree X)) (F0 m 41 ls []) := by
  unfold k_X6_fray_41 at hok
  refine lv_aload_n fx.1 fx.2.1 dX6_fray_41 rfl (lv_at hl 1 rfl) ?_
  refine lv_aload_n fx.1 fx.2.1 dX6_fray_42 rfl (lv_at hl 1 rfl) ?_
  refine g_geti fx hw h1 lf_RX6_163 rfl dX6_fray_43 ?_
  refine lv_aload_n fx.1 fx.2.1 dX6_fray_46 rfl (lv_at hl 0 rfl) ?_
  refine lv_aload_n fx.1 fx.2.1 dX6_fray_47 rfl (lv_at hl 1 rfl) ?_
  refine lv_aload_n fx.1 fx.2.1 dX6_fray_48 rfl (lv_at hl 2 rfl) ?_
  obtain ⟨v1, G2, hf, hok⟩ := gOk_bind2 hok
  refine g_callV0 (κ := 6) fx hw (c_X6_wearing l X τ n x0 x1 x3 G h0 h1 h3 hf) lv_RX6_202 ⟨rfl, rfl⟩ rfl rfl h0 rfl hl.1 rfl ⟨Nat.le_of_ble_eq_true rfl, Nat.le_of_ble_eq_true rfl⟩ (Nat.le_of_ble_eq_true rfl) ⟨Nat.le_of_ble_eq_true rfl, Nat.le_of_ble_eq_true rfl⟩ dX6_fray_49 (fun H locs hw => ?_)
  refine lv_iadd fx.1 fx.2.1 dX6_fray_52 ?_
  refine lv_bipush (v := 99) fx.1 fx.2.1 dX6_fray_53 (by decide) ?_
  refine g_mmin fx hl.1 lm_RX6_102 lmst_min lm_init lmco_min ⟨Nat.le_of_ble_eq_true rfl, Nat.le_of_ble_eq_true rfl, Nat.le_of_ble_eq_true rfl, Nat.le_of_ble_eq_true rfl⟩ dX6_fray_55 ?_
  refine g_puti fx hw h1 lp_RX6_163 rfl rfl dX6_fray_58 hok (fun G3 H locs hw hok => ?_)
  refine lv_aload_n fx.1 fx.2.1 dX6_fray_61 rfl (lv_at hl 1 rfl) ?_
  refine g_geti fx hw h1 lf_RX6_119 rfl dX6_fray_62 ?_
  refine g_if_ne (tgt := 90) fx dX6_fray_65 (by decide) hok (fun hok => ?_) (fun hok => ?_)
  · refine lv_aload_n fx.1 fx.2.1 dX6_fray_68 rfl (lv_at hl 1 rfl) ?_
    refine lv_dup fx.1 fx.2.1 dX6_fray_69 rfl ?_
    refine g_geti fx hw h1 lf_RX6_116 rfl dX6_fray_70 ?_
    refine lv_iconst (v := 1) fx.1 fx.2.1 dX6_fray_73 (by decide) ?_
    refine lv_isub fx.1 fx.2.1 dX6_fray_74 ?_
    refine g_puti fx hw h1 lp_RX6_116 rfl rfl dX6_fray_75 hok (fun G4 H locs hw hok => ?_)
    refine lv_aload_n fx.1 fx.2.1 dX6_fray_78 rfl (lv_at hl 1 rfl) ?_
    refine g_geti fx hw h1 lf_RX6_116 rfl dX6_fray_79 ?_
    refine g_if_gt (tgt := 90) fx dX6_fray_82 (by decide) hok (fun hok => ?_) (fun hok => ?_)
    · cases gOk_some hok
      exact g_vret fx hw hr dX6_fray_90
    · refine lv_aload_n fx.1 fx.2.1 dX6_fray_85 rfl (lv_at hl 0 rfl) ?_
      refine lv_aload_n fx.1 fx.2.1 dX6_fray_86 rfl (lv_at hl 1 rfl) ?_
      obtain ⟨G5, hf, hok⟩ := gOk_bind hok
      refine g_callV0 (κ := 6) fx hw (c_X6_snap l X τ x0 x1 G4 h0 h1 hf) lv_RX6_199 ⟨rfl, rfl⟩ rfl rfl h0 rfl hl.1 rfl ⟨Nat.le_of_ble_eq_true rfl, Nat.le_of_ble_eq_true rfl⟩ (Nat.le_of_ble_eq_true rfl) ⟨Nat.le_of_ble_eq_true rfl, Nat.le_of_ble_eq_true rfl⟩ dX6_fray_87 (fun H locs hw => ?_)
      cases gOk_some hok
      exact g_vret fx hw hr dX6_fray_90
  · cases gOk_some hok
    exact g_vret fx hw hr dX6_fray_90
set_option maxHeartbeats 4000000 in
set_option maxRecDepth 100000 in
theorem w_X6_fray_17 {X : gX} {τ : gτ} {p : Program} {l : Launch} {e : Env} {s : State} {m : MethodId} {args : Array Value} {below : List Frame} {meth : Method} {c : Code} (fx : gFx X p s m args meth c cX6_fray 5 RX6) (n : Nat) (x0 : Nat) (x1 : Nat) (x3 : Nat) (s0 : Int32) (h0 : gK τ x0 6) (h1 : gK τ x1 5) (h3 : gK τ x3 1)  (hr : meth.sig.returnType = none) {G' : gG} {G : gG} {H : Heap} {locs : List Loc} {ls : Array Slot} (hw : gHw X τ G H locs) (hl : lv_has ls 5 [(0, .ref x0), (1, .ref x1), (3, .ref x3)]) (hok : gOk (k_X6_fray_17 τ n x0 x1 x3 s0 G) (fun q => q = G'))  : W p l e rm_X6_fray s m args below meth c H locs 0 0 (MQ below (gQ X τ none G') args s 0 0 (gFree X)) (F0 m 17 ls [.int s0]) := by
  unfold k_X6_fray_17 at hok
  refine lv_istore (lv' := [(4, .int s0), (0, .ref x0), (1, .ref x1), (3, .ref x3)]) fx.1 fx.2.1 dX6_fray_17 hl (by decide) rfl (fun ls hl => ?_)
  refine lv_iload fx.1 fx.2.1 dX6_fray_19 (lv_at hl 0 rfl) ?_
  refine g_if_le (tgt := 41) fx dX6_fray_21 (by decide) hok (fun hok => ?_) (fun hok => ?_)
  · exact w_X6_fray_41 fx n x0 x1 x3  h0 h1 h3  hr hw (lv_sub hl [1, 2, 3] rfl) hok
  · refine lv_iload fx.1 fx.2.1 dX6_fray_24 (lv_at hl 0 rfl) ?_
    refine lv_aload_n fx.1 fx.2.1 dX6_fray_26 rfl (lv_at hl 1 rfl) ?_
    refine lv_aload_n fx.1 fx.2.1 dX6_fray_27 rfl (lv_at hl 2 rfl) ?_
    refine lv_aload_n fx.1 fx.2.1 dX6_fray_28 rfl (lv_at hl 3 rfl) ?_
    obtain ⟨v6, G7, hf, hok⟩ := gOk_bind2 hok
    refine g_callV0 (κ := 6) fx hw (c_X6_bearing l X τ n x0 x1 x3 G h0 h1 h3 hf) lv_RX6_195 ⟨rfl, rfl⟩ rfl rfl h0 rfl hl.1 rfl ⟨Nat.le_of_ble_eq_true rfl, Nat.le_of_ble_eq_true rfl⟩ (Nat.le_of_ble_eq_true rfl) ⟨Nat.le_of_ble_eq_true rfl, Nat.le_of_ble_eq_true rfl⟩ dX6_fray_29 (fun H locs hw => ?_)
    refine g_icmp_le (tgt := 41) fx dX6_fray_32 (by decide) hok (fun hok => ?_) (fun hok => ?_)
    · exact w_X6_fray_41 fx n x0 x1 x3  h0 h1 h3  hr hw (lv_sub hl [1, 2, 3] rfl) hok
    · refine lv_aload_n fx.1 fx.2.1 dX6_fray_35 rfl (lv_at hl 1 rfl) ?_
      refine lv_aload_n fx.1 fx.2.1 dX6_fray_36 rfl (lv_at hl 2 rfl) ?_
      obtain ⟨G8, hf, hok⟩ := gOk_bind hok
      refine g_callV0 (κ := 6) fx hw (c_X6_snap l X τ x0 x1 G7 h0 h1 hf) lv_RX6_199 ⟨rfl, rfl⟩ rfl rfl h0 rfl hl.1 rfl ⟨Nat.le_of_ble_eq_true rfl, Nat.le_of_ble_eq_true rfl⟩ (Nat.le_of_ble_eq_true rfl) ⟨Nat.le_of_ble_eq_true rfl, Nat.le_of_ble_eq_true rfl⟩ dX6_fray_37 (fun H locs hw => ?_)
      cases gOk_some hok
      exact g_vret fx hw hr dX6_fray_40
set_option maxHeartbeats 4000000 in
set_option maxRecDepth 100000 in
theorem c_X6_fray (l : Launch) (X : gX) (τ : gτ) (n : Nat) (x0 : Nat) (x1 : Nat) (x2 : Int32) (x3 : Nat) (G : gG) (h0 : gK τ x0 6) (h1 : gK τ x1 5) (h3 : gK τ x3 1) {G' : gG} (h : f_X6_fray τ n x0 x1 x2 x3 G = some G') : gM l X τ yX6_fray cX6_fray 5 none rm_X6_fray [.ref x0, .ref x1, .int x2, .ref x3] G none G' := by
  refine g_body (by decide +kernel) (Nat.le_of_ble_eq_true rfl) ?_
  intro p e s m args below meth c ls fx hr hw hl
  have fx : gFx X p s m args meth c cX6_fray 5 RX6 := fx
  have hl : lv_has ls 5 [(0, .ref x0), (1, .ref x1), (2, .int x2), (3, .ref x3)] := hl
  have hok : gOk (f_X6_fray τ n x0 x1 x2 x3 G) (fun q => q = G') := ⟨_, h, rfl⟩
  unfold f_X6_fray at hok
  show W p l e rm_X6_fray s m args below meth c s.heap [] 0 0 (MQ below (gQ X τ none G') args s 0 0 (gFree X)) _
  refine lv_iload_n fx.1 fx.2.1 dX6_fray_0 rfl (lv_at hl 2 rfl) ?_
  refine g_if_eq (tgt := 13) fx dX6_fray_1 (by decide) hok (fun hok => ?_) (fun hok => ?_)
  · refine lv_aload_n fx.1 fx.2.1 dX6_fray_13 rfl (lv_at hl 1 rfl) ?_
    refine g_geti fx hw h1 lf_RX6_123 rfl dX6_fray_14 ?_
    exact w_X6_fray_17 fx n x0 x1 x3 (gi G 5 7 x1) h0 h1 h3  hr hw (lv_sub hl [0, 1, 3] rfl) hok
  · refine lv_aload_n fx.1 fx.2.1 dX6_fray_4 rfl (lv_at hl 1 rfl) ?_
    refine g_geti fx hw h1 lf_RX6_123 rfl dX6_fray_5 ?_
    refine lv_iconst (v := 2) fx.1 fx.2.1 dX6_fray_8 (by decide) ?_
    refine lv_imul fx.1 fx.2.1 dX6_fray_9 ?_
    refine lv_goto (tgt := 17) fx.1 fx.2.1 dX6_fray_10 (by decide) ?_
    exact w_X6_fray_17 fx n x0 x1 x3 ((gi G 5 7 x1) * (2 : Int32)) h0 h1 h3  hr hw (lv_sub hl [0, 1, 3] rfl) hok
theorem dX6_endSeason_0 : decode cX6_endSeason 0 = .ok (.aload_n 0, 1) := by decide +kernel
theorem dX6_endSeason_1 : decode cX6_endSeason 1 = .ok (.aload_n 0, 1) := by decide +kernel
theorem dX6_endSeason_2 : decode cX6_endSeason 2 = .ok (.getfield 74, 3) := by decide +kernel
theorem dX6_endSeason_5 : decode cX6_endSeason 5 = .ok (.iconst 1, 1) := by decide +kernel
theorem dX6_endSeason_6 : decode cX6_endSeason 6 = .ok (.iadd, 1) := by decide +kernel
theorem dX6_endSeason_7 : decode cX6_endSeason 7 = .ok (.sipush 9999, 3) := by decide +kernel
theorem dX6_endSeason_10 : decode cX6_endSeason 10 = .ok (.invokestatic 102, 3) := by decide +kernel
theorem dX6_endSeason_13 : decode cX6_endSeason 13 = .ok (.putfield 74, 3) := by decide +kernel
theorem dX6_endSeason_16 : decode cX6_endSeason 16 = .ok (.return_, 1) := by decide +kernel
def rm_X6_endSeason : Room := { frames := 1, cells := 0, slots := 0, locals := 21 }
def f_X6_endSeason (x0 : Nat) (G : gG) : Option (gG) :=
  gLet (gsi G 6 10 x0 (gmin ((gi G 6 10 x0) + (1 : Int32)) (9999 : Int32))) fun G1 =>
  some G1
set_option maxHeartbeats 4000000 in
set_option maxRecDepth 100000 in
theorem c_X6_endSeason (l : Launch) (X : gX) (τ : gτ) (x0 : Nat) (G : gG) (h0 : gK τ x0 6) {G' : gG} (h : f_X6_endSeason x0 G = some G') : gM l X τ yX6_endSeason cX6_endSeason 1 none rm_X6_endSeason [.ref x0] G none G' := by
  refine g_body (by decide +kernel) (Nat.le_of_ble_eq_true rfl) ?_
  intro p e s m args below meth c ls fx hr hw hl
  have fx : gFx X p s m args meth c cX6_endSeason 1 RX6 := fx
  have hl : lv_has ls 1 [(0, .ref x0)] := hl
  have hok : gOk (f_X6_endSeason x0 G) (fun q => q = G') := ⟨_, h, rfl⟩
  unfold f_X6_endSeason at hok
  show W p l e rm_X6_endSeason s m args below meth c s.heap [] 0 0 (MQ below (gQ X τ none G') args s 0 0 (gFree X)) _
  refine lv_aload_n fx.1 fx.2.1 dX6_endSeason_0 rfl (lv_at hl 0 rfl) ?_
  refine lv_aload_n fx.1 fx.2.1 dX6_endSeason_1 rfl (lv_at hl 0 rfl) ?_
  refine g_geti fx hw h0 lf_RX6_74 rfl dX6_endSeason_2 ?_
  refine lv_iconst (v := 1) fx.1 fx.2.1 dX6_endSeason_5 (by decide) ?_
  refine lv_iadd fx.1 fx.2.1 dX6_endSeason_6 ?_
  refine lv_sipush (v := 9999) fx.1 fx.2.1 dX6_endSeason_7 (by decide) ?_
  refine g_mmin fx hl.1 lm_RX6_102 lmst_min lm_init lmco_min ⟨Nat.le_of_ble_eq_true rfl, Nat.le_of_ble_eq_true rfl, Nat.le_of_ble_eq_true rfl, Nat.le_of_ble_eq_true rfl⟩ dX6_endSeason_10 ?_
  refine g_puti fx hw h0 lp_RX6_74 rfl rfl dX6_endSeason_13 hok (fun G1 H locs hw hok => ?_)
  cases gOk_some hok
  exact g_vret fx hw hr dX6_endSeason_16
theorem dX6_passOne_0 : decode cX6_passOne 0 = .ok (.aload_n 0, 1) := by decide +kernel
theorem dX6_passOne_1 : decode cX6_passOne 1 = .ok (.invokevirtual 184, 3) := by decide +kernel
theorem dX6_passOne_4 : decode cX6_passOne 4 = .ok (.bipush 100, 2) := by decide +kernel
theorem dX6_passOne_6 : decode cX6_passOne 6 = .ok (.irem, 1) := by decide +kernel
theorem dX6_passOne_7 : decode cX6_passOne 7 = .ok (.aload_n 0, 1) := by decide +kernel
theorem dX6_passOne_8 : decode cX6_passOne 8 = .ok (.getfield 68, 3) := by decide +kernel
theorem dX6_passOne_11 : decode cX6_passOne 11 = .ok (.if_icmp .ge 7, 3) := by decide +kernel
theorem dX6_passOne_14 : decode cX6_passOne 14 = .ok (.iconst 1, 1) := by decide +kernel
theorem dX6_passOne_15 : decode cX6_passOne 15 = .ok (.goto 4, 3) := by decide +kernel
theorem dX6_passOne_18 : decode cX6_passOne 18 = .ok (.iconst 0, 1) := by decide +kernel
theorem dX6_passOne_19 : decode cX6_passOne 19 = .ok (.istore_n 2, 1) := by decide +kernel
theorem dX6_passOne_20 : decode cX6_passOne 20 = .ok (.iconst 0, 1) := by decide +kernel
theorem dX6_passOne_21 : decode cX6_passOne 21 = .ok (.istore_n 3, 1) := by decide +kernel
theorem dX6_passOne_22 : decode cX6_passOne 22 = .ok (.iload_n 3, 1) := by decide +kernel
theorem dX6_passOne_23 : decode cX6_passOne 23 = .ok (.aload_n 0, 1) := by decide +kernel
theorem dX6_passOne_24 : decode cX6_passOne 24 = .ok (.getfield 50, 3) := by decide +kernel
theorem dX6_passOne_27 : decode cX6_passOne 27 = .ok (.if_icmp .ge 33, 3) := by decide +kernel
theorem dX6_passOne_30 : decode cX6_passOne 30 = .ok (.aload_n 0, 1) := by decide +kernel
theorem dX6_passOne_31 : decode cX6_passOne 31 = .ok (.getfield 19, 3) := by decide +kernel
theorem dX6_passOne_34 : decode cX6_passOne 34 = .ok (.iload_n 3, 1) := by decide +kernel
theorem dX6_passOne_35 : decode cX6_passOne 35 = .ok (.aaload, 1) := by decide +kernel
theorem dX6_passOne_36 : decode cX6_passOne 36 = .ok (.getfield 135, 3) := by decide +kernel
theorem dX6_passOne_39 : decode cX6_passOne 39 = .ok (.ifCond .ne 15, 3) := by decide +kernel
theorem dX6_passOne_42 : decode cX6_passOne 42 = .ok (.aload_n 0, 1) := by decide +kernel
theorem dX6_passOne_43 : decode cX6_passOne 43 = .ok (.aload_n 0, 1) := by decide +kernel
theorem dX6_passOne_44 : decode cX6_passOne 44 = .ok (.getfield 19, 3) := by decide +kernel
theorem dX6_passOne_47 : decode cX6_passOne 47 = .ok (.iload_n 3, 1) := by decide +kernel
theorem dX6_passOne_48 : decode cX6_passOne 48 = .ok (.aaload, 1) := by decide +kernel
theorem dX6_passOne_49 : decode cX6_passOne 49 = .ok (.iload_n 2, 1) := by decide +kernel
theorem dX6_passOne_50 : decode cX6_passOne 50 = .ok (.aload_n 1, 1) := by decide +kernel
theorem dX6_passOne_51 : decode cX6_passOne 51 = .ok (.invokevirtual 187, 3) := by decide +kernel
theorem dX6_passOne_54 : decode cX6_passOne 54 = .ok (.iinc 3 1, 3) := by decide +kernel
theorem dX6_passOne_57 : decode cX6_passOne 57 = .ok (.goto (-35), 3) := by decide +kernel
theorem dX6_passOne_60 : decode cX6_passOne 60 = .ok (.iconst 0, 1) := by decide +kernel
theorem dX6_passOne_61 : decode cX6_passOne 61 = .ok (.istore_n 3, 1) := by decide +kernel
theorem dX6_passOne_62 : decode cX6_passOne 62 = .ok (.iload_n 3, 1) := by decide +kernel
theorem dX6_passOne_63 : decode cX6_passOne 63 = .ok (.aload_n 0, 1) := by decide +kernel
theorem dX6_passOne_64 : decode cX6_passOne 64 = .ok (.getfield 43, 3) := by decide +kernel
theorem dX6_passOne_67 : decode cX6_passOne 67 = .ok (.if_icmp .ge 60, 3) := by decide +kernel
theorem dX6_passOne_70 : decode cX6_passOne 70 = .ok (.aload_n 0, 1) := by decide +kernel
theorem dX6_passOne_71 : decode cX6_passOne 71 = .ok (.getfield 11, 3) := by decide +kernel
theorem dX6_passOne_74 : decode cX6_passOne 74 = .ok (.iload_n 3, 1) := by decide +kernel
theorem dX6_passOne_75 : decode cX6_passOne 75 = .ok (.aaload, 1) := by decide +kernel
theorem dX6_passOne_76 : decode cX6_passOne 76 = .ok (.getfield 89, 3) := by decide +kernel
theorem dX6_passOne_79 : decode cX6_passOne 79 = .ok (.ifCond .le 42, 3) := by decide +kernel
theorem dX6_passOne_82 : decode cX6_passOne 82 = .ok (.aload_n 0, 1) := by decide +kernel
theorem dX6_passOne_83 : decode cX6_passOne 83 = .ok (.invokevirtual 184, 3) := by decide +kernel
theorem dX6_passOne_86 : decode cX6_passOne 86 = .ok (.bipush 100, 2) := by decide +kernel
theorem dX6_passOne_88 : decode cX6_passOne 88 = .ok (.irem, 1) := by decide +kernel
theorem dX6_passOne_89 : decode cX6_passOne 89 = .ok (.aload_n 0, 1) := by decide +kernel
theorem dX6_passOne_90 : decode cX6_passOne 90 = .ok (.getfield 71, 3) := by decide +kernel
theorem dX6_passOne_93 : decode cX6_passOne 93 = .ok (.if_icmp .ge 28, 3) := by decide +kernel
theorem dX6_passOne_96 : decode cX6_passOne 96 = .ok (.aload_n 0, 1) := by decide +kernel
theorem dX6_passOne_97 : decode cX6_passOne 97 = .ok (.getfield 11, 3) := by decide +kernel
theorem dX6_passOne_100 : decode cX6_passOne 100 = .ok (.iload_n 3, 1) := by decide +kernel
theorem dX6_passOne_101 : decode cX6_passOne 101 = .ok (.aaload, 1) := by decide +kernel
theorem dX6_passOne_102 : decode cX6_passOne 102 = .ok (.aload_n 0, 1) := by decide +kernel
theorem dX6_passOne_103 : decode cX6_passOne 103 = .ok (.getfield 11, 3) := by decide +kernel
theorem dX6_passOne_106 : decode cX6_passOne 106 = .ok (.iload_n 3, 1) := by decide +kernel
theorem dX6_passOne_107 : decode cX6_passOne 107 = .ok (.aaload, 1) := by decide +kernel
theorem dX6_passOne_108 : decode cX6_passOne 108 = .ok (.getfield 92, 3) := by decide +kernel
theorem dX6_passOne_111 : decode cX6_passOne 111 = .ok (.iconst 1, 1) := by decide +kernel
theorem dX6_passOne_112 : decode cX6_passOne 112 = .ok (.iadd, 1) := by decide +kernel
theorem dX6_passOne_113 : decode cX6_passOne 113 = .ok (.bipush 9, 2) := by decide +kernel
theorem dX6_passOne_115 : decode cX6_passOne 115 = .ok (.invokestatic 102, 3) := by decide +kernel
theorem dX6_passOne_118 : decode cX6_passOne 118 = .ok (.putfield 92, 3) := by decide +kernel
theorem dX6_passOne_121 : decode cX6_passOne 121 = .ok (.iinc 3 1, 3) := by decide +kernel
theorem dX6_passOne_124 : decode cX6_passOne 124 = .ok (.goto (-62), 3) := by decide +kernel
theorem dX6_passOne_127 : decode cX6_passOne 127 = .ok (.aload_n 0, 1) := by decide +kernel
theorem dX6_passOne_128 : decode cX6_passOne 128 = .ok (.invokevirtual 191, 3) := by decide +kernel
theorem dX6_passOne_131 : decode cX6_passOne 131 = .ok (.return_, 1) := by decide +kernel
theorem lv_RX6_184 : gLv RX6 184 RX6 yX6_draw cX6_draw 1 (some .int) 0 := gLv_of (wA_t (wt5 (List.mem_of_getElem? (i := 237) (by decide +kernel))) (by decide +kernel)) (wA_t (wt5 (List.mem_of_getElem? (i := 239) (by decide +kernel))) (by decide +kernel)) (wA_of (List.mem_append_left _ (List.mem_map.mpr ⟨(⟨"YearRope$Shed", "draw", "()I"⟩, 15), wp2 (List.mem_of_getElem? (i := 15) (by decide +kernel)), rfl⟩)) (by decide +kernel)) (wA_t (wt1 (List.mem_of_getElem? (i := 6) (by decide +kernel))) (by decide +kernel)) (wA_t (wt6 (List.mem_of_getElem? (i := 0) (by decide +kernel))) (by decide +kernel)) ⟨rfl, by decide +kernel, by decide +kernel, by decide +kernel⟩
theorem lv_RX6_187 : gLv RX6 187 RX6 yX6_fray cX6_fray 5 none 3 := gLv_of (wA_t (wt6 (List.mem_of_getElem? (i := 2) (by decide +kernel))) (by decide +kernel)) (wA_t (wt6 (List.mem_of_getElem? (i := 3) (by decide +kernel))) (by decide +kernel)) (wA_t (wt6 (List.mem_of_getElem? (i := 4) (by decide +kernel))) (by decide +kernel)) (wA_t (wt1 (List.mem_of_getElem? (i := 6) (by decide +kernel))) (by decide +kernel)) (wA_t (wt6 (List.mem_of_getElem? (i := 5) (by decide +kernel))) (by decide +kernel)) ⟨rfl, by decide +kernel, by decide +kernel, by decide +kernel⟩
theorem lv_RX6_191 : gLv RX6 191 RX6 yX6_endSeason cX6_endSeason 1 none 0 := gLv_of (wA_t (wt6 (List.mem_of_getElem? (i := 17) (by decide +kernel))) (by decide +kernel)) (wA_t (wt6 (List.mem_of_getElem? (i := 18) (by decide +kernel))) (by decide +kernel)) (wA_t (wt6 (List.mem_of_getElem? (i := 19) (by decide +kernel))) (by decide +kernel)) (wA_t (wt1 (List.mem_of_getElem? (i := 6) (by decide +kernel))) (by decide +kernel)) (wA_t (wt6 (List.mem_of_getElem? (i := 20) (by decide +kernel))) (by decide +kernel)) ⟨rfl, by decide +kernel, by decide +kernel, by decide +kernel⟩
def rm_X6_passOne : Room := { frames := 5, cells := 0, slots := 0, locals := 121 }
def b_X6_passOne_22 (τ : gτ) (n : Nat) (x0 : Nat) (x1 : Nat) (x2 : Int32) (x3 : Int32) (G : gG) : Option ((Int32 × gG) ⊕ ((gG))) :=
  if (gi G 6 5 x0) ≤ x3 then (some (.inr G))
  else ((gr G 6 1 x0).bind fun a3 =>
  gchk (gIn x3 (gn τ a3)) <| (gq G a3 (Int32.toNatClampNeg x3)).bind fun a4 =>
  if (gi G 5 9 a4) = 0 then ((gr G 6 1 x0).bind fun a5 =>
  gchk (gIn x3 (gn τ a5)) <| (gq G a5 (Int32.toNatClampNeg x3)).bind fun a6 =>
  (f_X6_fray τ n x0 a6 x2 x1 G).bind fun G7 =>
  gLet (x3 + 1) fun v8 =>
  some (.inl (v8, G7)))
  else (gLet (x3 + 1) fun v9 =>
  some (.inl (v9, G))))
def l_X6_passOne_22 (τ : gτ) (n : Nat) (x0 : Nat) (x1 : Nat) (x2 : Int32) (x3 : Int32) (G : gG) : Option ((gG)) :=
  gIter (fun (q : Int32 × gG) => b_X6_passOne_22 τ n x0 x1 x2 q.1 q.2) n (x3, G)
def b_X6_passOne_62 (τ : gτ) (n : Nat) (x0 : Nat) (x3 : Int32) (G : gG) : Option ((Int32 × gG) ⊕ ((gG))) :=
  if (gi G 6 4 x0) ≤ x3 then (some (.inr G))
  else ((gr G 6 0 x0).bind fun a11 =>
  gchk (gIn x3 (gn τ a11)) <| (gq G a11 (Int32.toNatClampNeg x3)).bind fun a12 =>
  if (gi G 9 1 a12) ≤ 0 then (gLet (x3 + 1) fun v13 =>
  some (.inl (v13, G)))
  else (gBind2 (f_X6_draw x0 G) fun v14 G15 =>
  if (gi G15 6 9 x0) ≤ (v14 - v14 / (100 : Int32) * (100 : Int32)) then (gLet (x3 + 1) fun v16 =>
  some (.inl (v16, G15)))
  else ((gr G15 6 0 x0).bind fun a17 =>
  gchk (gIn x3 (gn τ a17)) <| (gq G15 a17 (Int32.toNatClampNeg x3)).bind fun a18 =>
  (gr G15 6 0 x0).bind fun a19 =>
  gchk (gIn x3 (gn τ a19)) <| (gq G15 a19 (Int32.toNatClampNeg x3)).bind fun a20 =>
  gLet (gsi G15 9 2 a18 (gmin ((gi G15 9 2 a20) + (1 : Int32)) (9 : Int32))) fun G21 =>
  gLet (x3 + 1) fun v22 =>
  some (.inl (v22, G21)))))
def l_X6_passOne_62 (τ : gτ) (n : Nat) (x0 : Nat) (x3 : Int32) (G : gG) : Option ((gG)) :=
  gIter (fun (q : Int32 × gG) => b_X6_passOne_62 τ n x0 q.1 q.2) n (x3, G)
def k_X6_passOne_127 (τ : gτ) (n : Nat) (x0 : Nat)  (G : gG) : Option (gG) :=
  (f_X6_endSeason x0 G).bind fun G24 =>
  some G24
def k_X6_passOne_60 (τ : gτ) (n : Nat) (x0 : Nat)  (G : gG) : Option (gG) :=
  (l_X6_passOne_62 τ n x0 (0 : Int32) G).bind fun q => gLet q fun G23 => 
  k_X6_passOne_127 τ n x0  G23
def k_X6_passOne_19 (τ : gτ) (n : Nat) (x0 : Nat) (x1 : Nat) (s0 : Int32) (G : gG) : Option (gG) :=
  (l_X6_passOne_22 τ n x0 x1 s0 (0 : Int32) G).bind fun q => gLet q fun G10 => 
  k_X6_passOne_60 τ n x0  G10
def f_X6_passOne (τ : gτ) (n : Nat) (x0 : Nat) (x1 : Nat) (G : gG) : Option (gG) :=
  gBind2 (f_X6_draw x0 G) fun v1 G2 =>
  if (gi G2 6 8 x0) ≤ (v1 - v1 / (100 : Int32) * (100 : Int32)) then (k_X6_passOne_19 τ n x0 x1 (0 : Int32) G2)
  else (k_X6_passOne_19 τ n x0 x1 (1 : Int32) G2)
set_option maxHeartbeats 4000000 in
set_option maxRecDepth 100000 in
theorem w_b_X6_passOne_22 {X : gX} {τ : gτ} {p : Program} {l : Launch} {e : Env} {s : State} {m : MethodId} {args : Array Value} {below : List Frame} {meth : Method} {c : Code} (fx : gFx X p s m args meth c cX6_passOne 4 RX6) (n : Nat) (x0 : Nat) (x1 : Nat) (x2 : Int32) (x3 : Int32) (h0 : gK τ x0 6) (h1 : gK τ x1 1) {Q : State → Prop} {K : ((Int32 × gG) ⊕ ((gG))) → Prop} {G : gG} {H : Heap} {locs : List Loc} {ls : Array Slot} (hw : gHw X τ G H locs) (hl : lv_has ls 4 [(0, .ref x0), (1, .ref x1), (2, .int x2), (3, .int x3)]) (hok : gOk (b_X6_passOne_22 τ n x0 x1 x2 x3 G) K) (hc : ∀ (y3 : Int32) (G : gG) (H : Heap) (locs : List Loc) (ls : Array Slot), gHw X τ G H locs → lv_has ls 4 [(0, .ref x0), (1, .ref x1), (2, .int x2), (3, .int y3)] → K (.inl (y3, G)) → W p l e rm_X6_passOne s m args below meth c H locs 0 0 Q (F0 m 22 ls [])) (hx0 : ∀ (G : gG) (H : Heap) (locs : List Loc) (ls : Array Slot), gHw X τ G H locs → lv_has ls 4 [(0, .ref x0)] → K (.inr G) → W p l e rm_X6_passOne s m args below meth c H locs 0 0 Q (F0 m 60 ls [])) : W p l e rm_X6_passOne s m args below meth c H locs 0 0 Q (F0 m 22 ls []) := by
  unfold b_X6_passOne_22 at hok
  refine lv_iload_n fx.1 fx.2.1 dX6_passOne_22 rfl (lv_at hl 3 rfl) ?_
  refine lv_aload_n fx.1 fx.2.1 dX6_passOne_23 rfl (lv_at hl 0 rfl) ?_
  refine g_geti fx hw h0 lf_RX6_50 rfl dX6_passOne_24 ?_
  refine g_icmp_ge (tgt := 60) fx dX6_passOne_27 (by decide) hok (fun hok => ?_) (fun hok => ?_)
  · exact hx0  G _ _ _  hw (lv_sub hl [0] rfl) (gOk_some hok)
  · refine lv_aload_n fx.1 fx.2.1 dX6_passOne_30 rfl (lv_at hl 0 rfl) ?_
    refine g_getr fx hw h0 lf_RX6_19 rfl dX6_passOne_31 hok (fun a3 h_a3 hok => ?_)
    refine lv_iload_n fx.1 fx.2.1 dX6_passOne_34 rfl (lv_at hl 3 rfl) ?_
    refine g_aald fx hw 15 3 h_a3 (by decide) (by decide) rfl (κ' := 5) rfl dX6_passOne_35 hok (fun a4 h_a4 hok => ?_)
    refine g_geti fx hw h_a4 lf_RX6_135 rfl dX6_passOne_36 ?_
    refine g_if_ne (tgt := 54) fx dX6_passOne_39 (by decide) hok (fun hok => ?_) (fun hok => ?_)
    · refine lv_aload_n fx.1 fx.2.1 dX6_passOne_42 rfl (lv_at hl 0 rfl) ?_
      refine lv_aload_n fx.1 fx.2.1 dX6_passOne_43 rfl (lv_at hl 0 rfl) ?_
      refine g_getr fx hw h0 lf_RX6_19 rfl dX6_passOne_44 hok (fun a5 h_a5 hok => ?_)
      refine lv_iload_n fx.1 fx.2.1 dX6_passOne_47 rfl (lv_at hl 3 rfl) ?_
      refine g_aald fx hw 15 3 h_a5 (by decide) (by decide) rfl (κ' := 5) rfl dX6_passOne_48 hok (fun a6 h_a6 hok => ?_)
      refine lv_iload_n fx.1 fx.2.1 dX6_passOne_49 rfl (lv_at hl 2 rfl) ?_
      refine lv_aload_n fx.1 fx.2.1 dX6_passOne_50 rfl (lv_at hl 1 rfl) ?_
      obtain ⟨G7, hf, hok⟩ := gOk_bind hok
      refine g_callV0 (κ := 6) fx hw (c_X6_fray l X τ n x0 a6 x2 x1 G h0 h_a6 h1 hf) lv_RX6_187 ⟨rfl, rfl⟩ rfl rfl h0 rfl hl.1 rfl ⟨Nat.le_of_ble_eq_true rfl, Nat.le_of_ble_eq_true rfl⟩ (Nat.le_of_ble_eq_true rfl) ⟨Nat.le_of_ble_eq_true rfl, Nat.le_of_ble_eq_true rfl⟩ dX6_passOne_51 (fun H locs hw => ?_)
      obtain ⟨v8, e_v8, hok⟩ := gOk_let hok
      refine lv_iinc (v := v8) (lv' := [(3, .int v8), (0, .ref x0), (1, .ref x1), (2, .int x2)]) fx.1 fx.2.1 dX6_passOne_54 hl (k := 3) rfl (by rw [e_v8]; rfl) (by decide) rfl (fun ls hl => ?_)
      refine lv_goto (tgt := 22) fx.1 fx.2.1 dX6_passOne_57 (by decide) ?_
      exact hc v8 G7 _ _ _  hw (lv_sub hl [1, 2, 3, 0] rfl) (gOk_some hok)
    · obtain ⟨v9, e_v9, hok⟩ := gOk_let hok
      refine lv_iinc (v := v9) (lv' := [(3, .int v9), (0, .ref x0), (1, .ref x1), (2, .int x2)]) fx.1 fx.2.1 dX6_passOne_54 hl (k := 3) rfl (by rw [e_v9]; rfl) (by decide) rfl (fun ls hl => ?_)
      refine lv_goto (tgt := 22) fx.1 fx.2.1 dX6_passOne_57 (by decide) ?_
      exact hc v9 G _ _ _  hw (lv_sub hl [1, 2, 3, 0] rfl) (gOk_some hok)
theorem w_l_X6_passOne_22 {X : gX} {τ : gτ} {p : Program} {l : Launch} {e : Env} {s : State} {m : MethodId} {args : Array Value} {below : List Frame} {meth : Method} {c : Code} (fx : gFx X p s m args meth c cX6_passOne 4 RX6) (n : Nat) (x0 : Nat) (x1 : Nat) (x2 : Int32) (h0 : gK τ x0 6) (h1 : gK τ x1 1) {Q : State → Prop} {K : ((gG)) → Prop} (hx0 : ∀ (G : gG) (H : Heap) (locs : List Loc) (ls : Array Slot), gHw X τ G H locs → lv_has ls 4 [(0, .ref x0)] → K G → W p l e rm_X6_passOne s m args below meth c H locs 0 0 Q (F0 m 60 ls [])) : ∀ (k : Nat) (x3 : Int32) (G : gG) (H : Heap) (locs : List Loc) (ls : Array Slot), gHw X τ G H locs → lv_has ls 4 [(0, .ref x0), (1, .ref x1), (2, .int x2), (3, .int x3)] → gOk (gIter (fun (q : Int32 × gG) => b_X6_passOne_22 τ n x0 x1 x2 q.1 q.2) k (x3, G)) K → W p l e rm_X6_passOne s m args below meth c H locs 0 0 Q (F0 m 22 ls []) := by
  intro k
  induction k with
  | zero =>
    intro x3 G H locs ls hw hl hok
    exact gOk_iter0 hok
  | succ k hc =>
    intro x3 G H locs ls hw hl hok
    exact w_b_X6_passOne_22 fx n x0 x1 x2 x3 h0 h1 hw hl (gOk_iter hok) hc hx0
set_option maxHeartbeats 4000000 in
set_option maxRecDepth 100000 in
theorem w_b_X6_passOne_62 {X : gX} {τ : gτ} {p : Program} {l : Launch} {e : Env} {s : State} {m : MethodId} {args : Array Value} {below : List Frame} {meth : Method} {c : Code} (fx : gFx X p s m args meth c cX6_passOne 4 RX6) (n : Nat) (x0 : Nat) (x3 : Int32) (h0 : gK τ x0 6) {Q : State → Prop} {K : ((Int32 × gG) ⊕ ((gG))) → Prop} {G : gG} {H : Heap} {locs : List Loc} {ls : Array Slot} (hw : gHw X τ G H locs) (hl : lv_has ls 4 [(0, .ref x0), (3, .int x3)]) (hok : gOk (b_X6_passOne_62 τ n x0 x3 G) K) (hc : ∀ (y3 : Int32) (G : gG) (H : Heap) (locs : List Loc) (ls : Array Slot), gHw X τ G H locs → lv_has ls 4 [(0, .ref x0), (3, .int y3)] → K (.inl (y3, G)) → W p l e rm_X6_passOne s m args below meth c H locs 0 0 Q (F0 m 62 ls [])) (hx0 : ∀ (G : gG) (H : Heap) (locs : List Loc) (ls : Array Slot), gHw X τ G H locs → lv_has ls 4 [(0, .ref x0)] → K (.inr G) → W p l e rm_X6_passOne s m args below meth c H locs 0 0 Q (F0 m 127 ls [])) : W p l e rm_X6_passOne s m args below meth c H locs 0 0 Q (F0 m 62 ls []) := by
  unfold b_X6_passOne_62 at hok
  refine lv_iload_n fx.1 fx.2.1 dX6_passOne_62 rfl (lv_at hl 1 rfl) ?_
  refine lv_aload_n fx.1 fx.2.1 dX6_passOne_63 rfl (lv_at hl 0 rfl) ?_
  refine g_geti fx hw h0 lf_RX6_43 rfl dX6_passOne_64 ?_
  refine g_icmp_ge (tgt := 127) fx dX6_passOne_67 (by decide) hok (fun hok => ?_) (fun hok => ?_)
  · exact hx0  G _ _ _  hw (lv_sub hl [0] rfl) (gOk_some hok)
  · refine lv_aload_n fx.1 fx.2.1 dX6_passOne_70 rfl (lv_at hl 0 rfl) ?_
    refine g_getr fx hw h0 lf_RX6_11 rfl dX6_passOne_71 hok (fun a11 h_a11 hok => ?_)
    refine lv_iload_n fx.1 fx.2.1 dX6_passOne_74 rfl (lv_at hl 1 rfl) ?_
    refine g_aald fx hw 17 5 h_a11 (by decide) (by decide) rfl (κ' := 9) rfl dX6_passOne_75 hok (fun a12 h_a12 hok => ?_)
    refine g_geti fx hw h_a12 lf_RX6_89 rfl dX6_passOne_76 ?_
    refine g_if_le (tgt := 121) fx dX6_passOne_79 (by decide) hok (fun hok => ?_) (fun hok => ?_)
    · obtain ⟨v13, e_v13, hok⟩ := gOk_let hok
      refine lv_iinc (v := v13) (lv' := [(3, .int v13), (0, .ref x0)]) fx.1 fx.2.1 dX6_passOne_121 hl (k := 1) rfl (by rw [e_v13]; rfl) (by decide) rfl (fun ls hl => ?_)
      refine lv_goto (tgt := 62) fx.1 fx.2.1 dX6_passOne_124 (by decide) ?_
      exact hc v13 G _ _ _  hw (lv_sub hl [1, 0] rfl) (gOk_some hok)
    · refine lv_aload_n fx.1 fx.2.1 dX6_passOne_82 rfl (lv_at hl 0 rfl) ?_
      obtain ⟨v14, G15, hf, hok⟩ := gOk_bind2 hok
      refine g_callV0 (κ := 6) fx hw (c_X6_draw l X τ x0 G h0 hf) lv_RX6_184 ⟨rfl, rfl⟩ rfl rfl h0 rfl hl.1 rfl ⟨Nat.le_of_ble_eq_true rfl, Nat.le_of_ble_eq_true rfl⟩ (Nat.le_of_ble_eq_true rfl) ⟨Nat.le_of_ble_eq_true rfl, Nat.le_of_ble_eq_true rfl⟩ dX6_passOne_83 (fun H locs hw => ?_)
      refine lv_bipush (v := 100) fx.1 fx.2.1 dX6_passOne_86 (by decide) ?_
      refine lv_irem fx.1 fx.2.1 dX6_passOne_88 (by decide) ?_
      refine lv_aload_n fx.1 fx.2.1 dX6_passOne_89 rfl (lv_at hl 0 rfl) ?_
      refine g_geti fx hw h0 lf_RX6_71 rfl dX6_passOne_90 ?_
      refine g_icmp_ge (tgt := 121) fx dX6_passOne_93 (by decide) hok (fun hok => ?_) (fun hok => ?_)
      · obtain ⟨v16, e_v16, hok⟩ := gOk_let hok
        refine lv_iinc (v := v16) (lv' := [(3, .int v16), (0, .ref x0)]) fx.1 fx.2.1 dX6_passOne_121 hl (k := 1) rfl (by rw [e_v16]; rfl) (by decide) rfl (fun ls hl => ?_)
        refine lv_goto (tgt := 62) fx.1 fx.2.1 dX6_passOne_124 (by decide) ?_
        exact hc v16 G15 _ _ _  hw (lv_sub hl [1, 0] rfl) (gOk_some hok)
      · refine lv_aload_n fx.1 fx.2.1 dX6_passOne_96 rfl (lv_at hl 0 rfl) ?_
        refine g_getr fx hw h0 lf_RX6_11 rfl dX6_passOne_97 hok (fun a17 h_a17 hok => ?_)
        refine lv_iload_n fx.1 fx.2.1 dX6_passOne_100 rfl (lv_at hl 1 rfl) ?_
        refine g_aald fx hw 17 5 h_a17 (by decide) (by decide) rfl (κ' := 9) rfl dX6_passOne_101 hok (fun a18 h_a18 hok => ?_)
        refine lv_aload_n fx.1 fx.2.1 dX6_passOne_102 rfl (lv_at hl 0 rfl) ?_
        refine g_getr fx hw h0 lf_RX6_11 rfl dX6_passOne_103 hok (fun a19 h_a19 hok => ?_)
        refine lv_iload_n fx.1 fx.2.1 dX6_passOne_106 rfl (lv_at hl 1 rfl) ?_
        refine g_aald fx hw 17 5 h_a19 (by decide) (by decide) rfl (κ' := 9) rfl dX6_passOne_107 hok (fun a20 h_a20 hok => ?_)
        refine g_geti fx hw h_a20 lf_RX6_92 rfl dX6_passOne_108 ?_
        refine lv_iconst (v := 1) fx.1 fx.2.1 dX6_passOne_111 (by decide) ?_
        refine lv_iadd fx.1 fx.2.1 dX6_passOne_112 ?_
        refine lv_bipush (v := 9) fx.1 fx.2.1 dX6_passOne_113 (by decide) ?_
        refine g_mmin fx hl.1 lm_RX6_102 lmst_min lm_init lmco_min ⟨Nat.le_of_ble_eq_true rfl, Nat.le_of_ble_eq_true rfl, Nat.le_of_ble_eq_true rfl, Nat.le_of_ble_eq_true rfl⟩ dX6_passOne_115 ?_
        refine g_puti fx hw h_a18 lp_RX6_92 rfl rfl dX6_passOne_118 hok (fun G21 H locs hw hok => ?_)
        obtain ⟨v22, e_v22, hok⟩ := gOk_let hok
        refine lv_iinc (v := v22) (lv' := [(3, .int v22), (0, .ref x0)]) fx.1 fx.2.1 dX6_passOne_121 hl (k := 1) rfl (by rw [e_v22]; rfl) (by decide) rfl (fun ls hl => ?_)
        refine lv_goto (tgt := 62) fx.1 fx.2.1 dX6_passOne_124 (by decide) ?_
        exact hc v22 G21 _ _ _  hw (lv_sub hl [1, 0] rfl) (gOk_some hok)
theorem w_l_X6_passOne_62 {X : gX} {τ : gτ} {p : Program} {l : Launch} {e : Env} {s : State} {m : MethodId} {args : Array Value} {below : List Frame} {meth : Method} {c : Code} (fx : gFx X p s m args meth c cX6_passOne 4 RX6) (n : Nat) (x0 : Nat) (h0 : gK τ x0 6) {Q : State → Prop} {K : ((gG)) → Prop} (hx0 : ∀ (G : gG) (H : Heap) (locs : List Loc) (ls : Array Slot), gHw X τ G H locs → lv_has ls 4 [(0, .ref x0)] → K G → W p l e rm_X6_passOne s m args below meth c H locs 0 0 Q (F0 m 127 ls [])) : ∀ (k : Nat) (x3 : Int32) (G : gG) (H : Heap) (locs : List Loc) (ls : Array Slot), gHw X τ G H locs → lv_has ls 4 [(0, .ref x0), (3, .int x3)] → gOk (gIter (fun (q : Int32 × gG) => b_X6_passOne_62 τ n x0 q.1 q.2) k (x3, G)) K → W p l e rm_X6_passOne s m args below meth c H locs 0 0 Q (F0 m 62 ls []) := by
  intro k
  induction k with
  | zero =>
    intro x3 G H locs ls hw hl hok
    exact gOk_iter0 hok
  | succ k hc =>
    intro x3 G H locs ls hw hl hok
    exact w_b_X6_passOne_62 fx n x0 x3 h0 hw hl (gOk_iter hok) hc hx0
set_option maxHeartbeats 4000000 in
set_option maxRecDepth 100000 in
theorem w_X6_passOne_127 {X : gX} {τ : gτ} {p : Program} {l : Launch} {e : Env} {s : State} {m : MethodId} {args : Array Value} {below : List Frame} {meth : Method} {c : Code} (fx : gFx X p s m args meth c cX6_passOne 4 RX6) (n : Nat) (x0 : Nat)  (h0 : gK τ x0 6)  (hr : meth.sig.returnType = none) {G' : gG} {G : gG} {H : Heap} {locs : List Loc} {ls : Array Slot} (hw : gHw X τ G H locs) (hl : lv_has ls 4 [(0, .ref x0)]) (hok : gOk (k_X6_passOne_127 τ n x0  G) (fun q => q = G'))  : W p l e rm_X6_passOne s m args below meth c H locs 0 0 (MQ below (gQ X τ none G') args s 0 0 (gFree X)) (F0 m 127 ls []) := by
  unfold k_X6_passOne_127 at hok
  refine lv_aload_n fx.1 fx.2.1 dX6_passOne_127 rfl (lv_at hl 0 rfl) ?_
  obtain ⟨G24, hf, hok⟩ := gOk_bind hok
  refine g_callV0 (κ := 6) fx hw (c_X6_endSeason l X τ x0 G h0 hf) lv_RX6_191 ⟨rfl, rfl⟩ rfl rfl h0 rfl hl.1 rfl ⟨Nat.le_of_ble_eq_true rfl, Nat.le_of_ble_eq_true rfl⟩ (Nat.le_of_ble_eq_true rfl) ⟨Nat.le_of_ble_eq_true rfl, Nat.le_of_ble_eq_true rfl⟩ dX6_passOne_128 (fun H locs hw => ?_)
  cases gOk_some hok
  exact g_vret fx hw hr dX6_passOne_131
set_option maxHeartbeats 4000000 in
set_option maxRecDepth 100000 in
theorem w_X6_passOne_60 {X : gX} {τ : gτ} {p : Program} {l : Launch} {e : Env} {s : State} {m : MethodId} {args : Array Value} {below : List Frame} {meth : Method} {c : Code} (fx : gFx X p s m args meth c cX6_passOne 4 RX6) (n : Nat) (x0 : Nat)  (h0 : gK τ x0 6)  (hr : meth.sig.returnType = none) {G' : gG} {G : gG} {H : Heap} {locs : List Loc} {ls : Array Slot} (hw : gHw X τ G H locs) (hl : lv_has ls 4 [(0, .ref x0)]) (hok : gOk (k_X6_passOne_60 τ n x0  G) (fun q => q = G'))  : W p l e rm_X6_passOne s m args below meth c H locs 0 0 (MQ below (gQ X τ none G') args s 0 0 (gFree X)) (F0 m 60 ls []) := by
  unfold k_X6_passOne_60 at hok
  refine lv_iconst (v := 0) fx.1 fx.2.1 dX6_passOne_60 (by decide) ?_
  refine lv_istore_n (lv' := [(3, .int (0 : Int32)), (0, .ref x0)]) fx.1 fx.2.1 dX6_passOne_61 rfl hl (by decide) rfl (fun ls hl => ?_)
  refine w_l_X6_passOne_62 fx n x0 h0 ?_ n (0 : Int32) G _ _ _  hw (lv_sub hl [1, 0] rfl) (gOk_bindK hok)
  intro G23 H locs ls hw hl hok
  have hok : gOk (ρ := gG) (k_X6_passOne_127 τ n x0  G23) _ := hok
  exact w_X6_passOne_127 fx n x0  h0  hr hw (lv_sub hl [0] rfl) hok
set_option maxHeartbeats 4000000 in
set_option maxRecDepth 100000 in
theorem w_X6_passOne_19 {X : gX} {τ : gτ} {p : Program} {l : Launch} {e : Env} {s : State} {m : MethodId} {args : Array Value} {below : List Frame} {meth : Method} {c : Code} (fx : gFx X p s m args meth c cX6_passOne 4 RX6) (n : Nat) (x0 : Nat) (x1 : Nat) (s0 : Int32) (h0 : gK τ x0 6) (h1 : gK τ x1 1)  (hr : meth.sig.returnType = none) {G' : gG} {G : gG} {H : Heap} {locs : List Loc} {ls : Array Slot} (hw : gHw X τ G H locs) (hl : lv_has ls 4 [(0, .ref x0), (1, .ref x1)]) (hok : gOk (k_X6_passOne_19 τ n x0 x1 s0 G) (fun q => q = G'))  : W p l e rm_X6_passOne s m args below meth c H locs 0 0 (MQ below (gQ X τ none G') args s 0 0 (gFree X)) (F0 m 19 ls [.int s0]) := by
  unfold k_X6_passOne_19 at hok
  refine lv_istore_n (lv' := [(2, .int s0), (0, .ref x0), (1, .ref x1)]) fx.1 fx.2.1 dX6_passOne_19 rfl hl (by decide) rfl (fun ls hl => ?_)
  refine lv_iconst (v := 0) fx.1 fx.2.1 dX6_passOne_20 (by decide) ?_
  refine lv_istore_n (lv' := [(3, .int (0 : Int32)), (2, .int s0), (0, .ref x0), (1, .ref x1)]) fx.1 fx.2.1 dX6_passOne_21 rfl hl (by decide) rfl (fun ls hl => ?_)
  refine w_l_X6_passOne_22 fx n x0 x1 s0 h0 h1 ?_ n (0 : Int32) G _ _ _  hw (lv_sub hl [2, 3, 1, 0] rfl) (gOk_bindK hok)
  intro G10 H locs ls hw hl hok
  have hok : gOk (ρ := gG) (k_X6_passOne_60 τ n x0  G10) _ := hok
  exact w_X6_passOne_60 fx n x0  h0  hr hw (lv_sub hl [0] rfl) hok
set_option maxHeartbeats 4000000 in
set_option maxRecDepth 100000 in
theorem c_X6_passOne (l : Launch) (X : gX) (τ : gτ) (n : Nat) (x0 : Nat) (x1 : Nat) (G : gG) (h0 : gK τ x0 6) (h1 : gK τ x1 1) {G' : gG} (h : f_X6_passOne τ n x0 x1 G = some G') : gM l X τ yX6_passOne cX6_passOne 4 none rm_X6_passOne [.ref x0, .ref x1] G none G' := by
  refine g_body (by decide +kernel) (Nat.le_of_ble_eq_true rfl) ?_
  intro p e s m args below meth c ls fx hr hw hl
  have fx : gFx X p s m args meth c cX6_passOne 4 RX6 := fx
  have hl : lv_has ls 4 [(0, .ref x0), (1, .ref x1)] := hl
  have hok : gOk (f_X6_passOne τ n x0 x1 G) (fun q => q = G') := ⟨_, h, rfl⟩
  unfold f_X6_passOne at hok
  show W p l e rm_X6_passOne s m args below meth c s.heap [] 0 0 (MQ below (gQ X τ none G') args s 0 0 (gFree X)) _
  refine lv_aload_n fx.1 fx.2.1 dX6_passOne_0 rfl (lv_at hl 0 rfl) ?_
  obtain ⟨v1, G2, hf, hok⟩ := gOk_bind2 hok
  refine g_callV0 (κ := 6) fx hw (c_X6_draw l X τ x0 G h0 hf) lv_RX6_184 ⟨rfl, rfl⟩ rfl rfl h0 rfl hl.1 rfl ⟨Nat.le_of_ble_eq_true rfl, Nat.le_of_ble_eq_true rfl⟩ (Nat.le_of_ble_eq_true rfl) ⟨Nat.le_of_ble_eq_true rfl, Nat.le_of_ble_eq_true rfl⟩ dX6_passOne_1 (fun H locs hw => ?_)
  refine lv_bipush (v := 100) fx.1 fx.2.1 dX6_passOne_4 (by decide) ?_
  refine lv_irem fx.1 fx.2.1 dX6_passOne_6 (by decide) ?_
  refine lv_aload_n fx.1 fx.2.1 dX6_passOne_7 rfl (lv_at hl 0 rfl) ?_
  refine g_geti fx hw h0 lf_RX6_68 rfl dX6_passOne_8 ?_
  refine g_icmp_ge (tgt := 18) fx dX6_passOne_11 (by decide) hok (fun hok => ?_) (fun hok => ?_)
  · refine lv_iconst (v := 0) fx.1 fx.2.1 dX6_passOne_18 (by decide) ?_
    exact w_X6_passOne_19 fx n x0 x1 (0 : Int32) h0 h1  hr hw (lv_sub hl [0, 1] rfl) hok
  · refine lv_iconst (v := 1) fx.1 fx.2.1 dX6_passOne_14 (by decide) ?_
    refine lv_goto (tgt := 19) fx.1 fx.2.1 dX6_passOne_15 (by decide) ?_
    exact w_X6_passOne_19 fx n x0 x1 (1 : Int32) h0 h1  hr hw (lv_sub hl [0, 1] rfl) hok
theorem dX6_pass_0 : decode cX6_pass 0 = .ok (.iconst 0, 1) := by decide +kernel
theorem dX6_pass_1 : decode cX6_pass 1 = .ok (.istore_n 3, 1) := by decide +kernel
theorem dX6_pass_2 : decode cX6_pass 2 = .ok (.iload_n 3, 1) := by decide +kernel
theorem dX6_pass_3 : decode cX6_pass 3 = .ok (.iload_n 1, 1) := by decide +kernel
theorem dX6_pass_4 : decode cX6_pass 4 = .ok (.if_icmp .ge 14, 3) := by decide +kernel
theorem dX6_pass_7 : decode cX6_pass 7 = .ok (.aload_n 0, 1) := by decide +kernel
theorem dX6_pass_8 : decode cX6_pass 8 = .ok (.aload_n 2, 1) := by decide +kernel
theorem dX6_pass_9 : decode cX6_pass 9 = .ok (.invokevirtual 180, 3) := by decide +kernel
theorem dX6_pass_12 : decode cX6_pass 12 = .ok (.iinc 3 1, 3) := by decide +kernel
theorem dX6_pass_15 : decode cX6_pass 15 = .ok (.goto (-13), 3) := by decide +kernel
theorem dX6_pass_18 : decode cX6_pass 18 = .ok (.return_, 1) := by decide +kernel
theorem lv_RX6_180 : gLv RX6 180 RX6 yX6_passOne cX6_passOne 4 none 1 := gLv_of (wA_t (wt5 (List.mem_of_getElem? (i := 233) (by decide +kernel))) (by decide +kernel)) (wA_t (wt5 (List.mem_of_getElem? (i := 235) (by decide +kernel))) (by decide +kernel)) (wA_of (List.mem_append_left _ (List.mem_map.mpr ⟨(⟨"YearRope$Shed", "passOne", "(LYearRope$Law;)V"⟩, 15), wp2 (List.mem_of_getElem? (i := 14) (by decide +kernel)), rfl⟩)) (by decide +kernel)) (wA_t (wt1 (List.mem_of_getElem? (i := 6) (by decide +kernel))) (by decide +kernel)) (wA_t (wt5 (List.mem_of_getElem? (i := 236) (by decide +kernel))) (by decide +kernel)) ⟨rfl, by decide +kernel, by decide +kernel, by decide +kernel⟩
def rm_X6_pass : Room := { frames := 6, cells := 0, slots := 0, locals := 144 }
def b_X6_pass_2 (τ : gτ) (n : Nat) (x0 : Nat) (x1 : Int32) (x2 : Nat) (x3 : Int32) (G : gG) : Option ((Int32 × gG) ⊕ ((gG))) :=
  if x1 ≤ x3 then (some (.inr G))
  else ((f_X6_passOne τ n x0 x2 G).bind fun G1 =>
  gLet (x3 + 1) fun v2 =>
  some (.inl (v2, G1)))
def l_X6_pass_2 (τ : gτ) (n : Nat) (x0 : Nat) (x1 : Int32) (x2 : Nat) (x3 : Int32) (G : gG) : Option ((gG)) :=
  gIter (fun (q : Int32 × gG) => b_X6_pass_2 τ n x0 x1 x2 q.1 q.2) n (x3, G)
def f_X6_pass (τ : gτ) (n : Nat) (x0 : Nat) (x1 : Int32) (x2 : Nat) (G : gG) : Option (gG) :=
  (l_X6_pass_2 τ n x0 x1 x2 (0 : Int32) G).bind fun q => gLet q fun G3 => 
  some G3
set_option maxHeartbeats 4000000 in
set_option maxRecDepth 100000 in
theorem w_b_X6_pass_2 {X : gX} {τ : gτ} {p : Program} {l : Launch} {e : Env} {s : State} {m : MethodId} {args : Array Value} {below : List Frame} {meth : Method} {c : Code} (fx : gFx X p s m args meth c cX6_pass 4 RX6) (n : Nat) (x0 : Nat) (x1 : Int32) (x2 : Nat) (x3 : Int32) (h0 : gK τ x0 6) (h2 : gK τ x2 1) {Q : State → Prop} {K : ((Int32 × gG) ⊕ ((gG))) → Prop} {G : gG} {H : Heap} {locs : List Loc} {ls : Array Slot} (hw : gHw X τ G H locs) (hl : lv_has ls 4 [(0, .ref x0), (1, .int x1), (2, .ref x2), (3, .int x3)]) (hok : gOk (b_X6_pass_2 τ n x0 x1 x2 x3 G) K) (hc : ∀ (y3 : Int32) (G : gG) (H : Heap) (locs : List Loc) (ls : Array Slot), gHw X τ G H locs → lv_has ls 4 [(0, .ref x0), (1, .int x1), (2, .ref x2), (3, .int y3)] → K (.inl (y3, G)) → W p l e rm_X6_pass s m args below meth c H locs 0 0 Q (F0 m 2 ls [])) (hx0 : ∀ (G : gG) (H : Heap) (locs : List Loc) (ls : Array Slot), gHw X τ G H locs → lv_has ls 4 [] → K (.inr G) → W p l e rm_X6_pass s m args below meth c H locs 0 0 Q (F0 m 18 ls [])) : W p l e rm_X6_pass s m args below meth c H locs 0 0 Q (F0 m 2 ls []) := by
  unfold b_X6_pass_2 at hok
  refine lv_iload_n fx.1 fx.2.1 dX6_pass_2 rfl (lv_at hl 3 rfl) ?_
  refine lv_iload_n fx.1 fx.2.1 dX6_pass_3 rfl (lv_at hl 1 rfl) ?_
  refine g_icmp_ge (tgt := 18) fx dX6_pass_4 (by decide) hok (fun hok => ?_) (fun hok => ?_)
  · exact hx0  G _ _ _  hw (lv_sub hl [] rfl) (gOk_some hok)
  · refine lv_aload_n fx.1 fx.2.1 dX6_pass_7 rfl (lv_at hl 0 rfl) ?_
    refine lv_aload_n fx.1 fx.2.1 dX6_pass_8 rfl (lv_at hl 2 rfl) ?_
    obtain ⟨G1, hf, hok⟩ := gOk_bind hok
    refine g_callV0 (κ := 6) fx hw (c_X6_passOne l X τ n x0 x2 G h0 h2 hf) lv_RX6_180 ⟨rfl, rfl⟩ rfl rfl h0 rfl hl.1 rfl ⟨Nat.le_of_ble_eq_true rfl, Nat.le_of_ble_eq_true rfl⟩ (Nat.le_of_ble_eq_true rfl) ⟨Nat.le_of_ble_eq_true rfl, Nat.le_of_ble_eq_true rfl⟩ dX6_pass_9 (fun H locs hw => ?_)
    obtain ⟨v2, e_v2, hok⟩ := gOk_let hok
    refine lv_iinc (v := v2) (lv' := [(3, .int v2), (0, .ref x0), (1, .int x1), (2, .ref x2)]) fx.1 fx.2.1 dX6_pass_12 hl (k := 3) rfl (by rw [e_v2]; rfl) (by decide) rfl (fun ls hl => ?_)
    refine lv_goto (tgt := 2) fx.1 fx.2.1 dX6_pass_15 (by decide) ?_
    exact hc v2 G1 _ _ _  hw (lv_sub hl [1, 2, 3, 0] rfl) (gOk_some hok)
theorem w_l_X6_pass_2 {X : gX} {τ : gτ} {p : Program} {l : Launch} {e : Env} {s : State} {m : MethodId} {args : Array Value} {below : List Frame} {meth : Method} {c : Code} (fx : gFx X p s m args meth c cX6_pass 4 RX6) (n : Nat) (x0 : Nat) (x1 : Int32) (x2 : Nat) (h0 : gK τ x0 6) (h2 : gK τ x2 1) {Q : State → Prop} {K : ((gG)) → Prop} (hx0 : ∀ (G : gG) (H : Heap) (locs : List Loc) (ls : Array Slot), gHw X τ G H locs → lv_has ls 4 [] → K G → W p l e rm_X6_pass s m args below meth c H locs 0 0 Q (F0 m 18 ls [])) : ∀ (k : Nat) (x3 : Int32) (G : gG) (H : Heap) (locs : List Loc) (ls : Array Slot), gHw X τ G H locs → lv_has ls 4 [(0, .ref x0), (1, .int x1), (2, .ref x2), (3, .int x3)] → gOk (gIter (fun (q : Int32 × gG) => b_X6_pass_2 τ n x0 x1 x2 q.1 q.2) k (x3, G)) K → W p l e rm_X6_pass s m args below meth c H locs 0 0 Q (F0 m 2 ls []) := by
  intro k
  induction k with
  | zero =>
    intro x3 G H locs ls hw hl hok
    exact gOk_iter0 hok
  | succ k hc =>
    intro x3 G H locs ls hw hl hok
    exact w_b_X6_pass_2 fx n x0 x1 x2 x3 h0 h2 hw hl (gOk_iter hok) hc hx0
set_option maxHeartbeats 4000000 in
set_option maxRecDepth 100000 in
theorem c_X6_pass (l : Launch) (X : gX) (τ : gτ) (n : Nat) (x0 : Nat) (x1 : Int32) (x2 : Nat) (G : gG) (h0 : gK τ x0 6) (h2 : gK τ x2 1) {G' : gG} (h : f_X6_pass τ n x0 x1 x2 G = some G') : gM l X τ yX6_pass cX6_pass 4 none rm_X6_pass [.ref x0, .int x1, .ref x2] G none G' := by
  refine g_body (by decide +kernel) (Nat.le_of_ble_eq_true rfl) ?_
  intro p e s m args below meth c ls fx hr hw hl
  have fx : gFx X p s m args meth c cX6_pass 4 RX6 := fx
  have hl : lv_has ls 4 [(0, .ref x0), (1, .int x1), (2, .ref x2)] := hl
  have hok : gOk (f_X6_pass τ n x0 x1 x2 G) (fun q => q = G') := ⟨_, h, rfl⟩
  unfold f_X6_pass at hok
  show W p l e rm_X6_pass s m args below meth c s.heap [] 0 0 (MQ below (gQ X τ none G') args s 0 0 (gFree X)) _
  refine lv_iconst (v := 0) fx.1 fx.2.1 dX6_pass_0 (by decide) ?_
  refine lv_istore_n (lv' := [(3, .int (0 : Int32)), (0, .ref x0), (1, .int x1), (2, .ref x2)]) fx.1 fx.2.1 dX6_pass_1 rfl hl (by decide) rfl (fun ls hl => ?_)
  refine w_l_X6_pass_2 fx n x0 x1 x2 h0 h2 ?_ n (0 : Int32) G _ _ _  hw (lv_sub hl [1, 2, 3, 0] rfl) (gOk_bindK hok)
  intro G3 H locs ls hw hl hok
  have hok : gOk (ρ := gG) (some G3) _ := hok
  cases gOk_some hok
  exact g_vret fx hw hr dX6_pass_18
theorem dX7_append_0 : decode cX7_append 0 = .ok (.bipush 24, 2) := by decide +kernel
theorem dX7_append_2 : decode cX7_append 2 = .ok (.istore_n 2, 1) := by decide +kernel
theorem dX7_append_3 : decode cX7_append 3 = .ok (.iload_n 2, 1) := by decide +kernel
theorem dX7_append_4 : decode cX7_append 4 = .ok (.ifCond .lt 45, 3) := by decide +kernel
theorem dX7_append_7 : decode cX7_append 7 = .ok (.aload_n 0, 1) := by decide +kernel
theorem dX7_append_8 : decode cX7_append 8 = .ok (.getfield 19, 3) := by decide +kernel
theorem dX7_append_11 : decode cX7_append 11 = .ok (.sipush 400, 3) := by decide +kernel
theorem dX7_append_14 : decode cX7_append 14 = .ok (.if_icmp .ge 35, 3) := by decide +kernel
theorem dX7_append_17 : decode cX7_append 17 = .ok (.aload_n 0, 1) := by decide +kernel
theorem dX7_append_18 : decode cX7_append 18 = .ok (.getfield 9, 3) := by decide +kernel
theorem dX7_append_21 : decode cX7_append 21 = .ok (.aload_n 0, 1) := by decide +kernel
theorem dX7_append_22 : decode cX7_append 22 = .ok (.getfield 19, 3) := by decide +kernel
theorem dX7_append_25 : decode cX7_append 25 = .ok (.iload_n 1, 1) := by decide +kernel
theorem dX7_append_26 : decode cX7_append 26 = .ok (.iload_n 2, 1) := by decide +kernel
theorem dX7_append_27 : decode cX7_append 27 = .ok (.iushr, 1) := by decide +kernel
theorem dX7_append_28 : decode cX7_append 28 = .ok (.sipush 255, 3) := by decide +kernel
theorem dX7_append_31 : decode cX7_append 31 = .ok (.iand, 1) := by decide +kernel
theorem dX7_append_32 : decode cX7_append 32 = .ok (.iastore, 1) := by decide +kernel
theorem dX7_append_33 : decode cX7_append 33 = .ok (.aload_n 0, 1) := by decide +kernel
theorem dX7_append_34 : decode cX7_append 34 = .ok (.dup, 1) := by decide +kernel
theorem dX7_append_35 : decode cX7_append 35 = .ok (.getfield 19, 3) := by decide +kernel
theorem dX7_append_38 : decode cX7_append 38 = .ok (.iconst 1, 1) := by decide +kernel
theorem dX7_append_39 : decode cX7_append 39 = .ok (.iadd, 1) := by decide +kernel
theorem dX7_append_40 : decode cX7_append 40 = .ok (.putfield 19, 3) := by decide +kernel
theorem dX7_append_43 : decode cX7_append 43 = .ok (.iinc 2 (-8), 3) := by decide +kernel
theorem dX7_append_46 : decode cX7_append 46 = .ok (.goto (-43), 3) := by decide +kernel
theorem dX7_append_49 : decode cX7_append 49 = .ok (.return_, 1) := by decide +kernel
theorem lp_RX7_19 : gLp RX7 19 7 1 := ⟨(RX7, TX7, 6), rfl, by decide, wA_t (wt1 (List.mem_of_getElem? (i := 44) (by decide +kernel))) (by decide +kernel), rfl, rfl⟩
def rm_X7_append : Room := { frames := 0, cells := 0, slots := 0, locals := 0 }
def b_X7_append_3 (τ : gτ) (n : Nat) (x0 : Nat) (x1 : Int32) (x2 : Int32) (G : gG) : Option ((Int32 × gG) ⊕ ((gG))) :=
  if x2 < 0 then (some (.inr G))
  else (if (400 : Int32) ≤ (gi G 7 1 x0) then (some (.inr G))
  else ((gr G 7 0 x0).bind fun a1 =>
  gchk (gIn (gi G 7 1 x0) (gn τ a1)) <| gLet (gse G a1 (Int32.toNatClampNeg (gi G 7 1 x0)) (((Int32.toUInt32 x1 >>> (Int32.toUInt32 x2 &&& Int32.toUInt32 31)).toInt32) &&& (255 : Int32))) fun G2 =>
  gLet (gsi G2 7 1 x0 ((gi G2 7 1 x0) + (1 : Int32))) fun G3 =>
  gLet (x2 + (-8)) fun v4 =>
  some (.inl (v4, G3))))
def l_X7_append_3 (τ : gτ) (n : Nat) (x0 : Nat) (x1 : Int32) (x2 : Int32) (G : gG) : Option ((gG)) :=
  gIter (fun (q : Int32 × gG) => b_X7_append_3 τ n x0 x1 q.1 q.2) n (x2, G)
def f_X7_append (τ : gτ) (n : Nat) (x0 : Nat) (x1 : Int32) (G : gG) : Option (gG) :=
  (l_X7_append_3 τ n x0 x1 (24 : Int32) G).bind fun q => gLet q fun G5 => 
  some G5
set_option maxHeartbeats 4000000 in
set_option maxRecDepth 100000 in
theorem w_b_X7_append_3 {X : gX} {τ : gτ} {p : Program} {l : Launch} {e : Env} {s : State} {m : MethodId} {args : Array Value} {below : List Frame} {meth : Method} {c : Code} (fx : gFx X p s m args meth c cX7_append 3 RX7) (n : Nat) (x0 : Nat) (x1 : Int32) (x2 : Int32) (h0 : gK τ x0 7) {Q : State → Prop} {K : ((Int32 × gG) ⊕ ((gG))) → Prop} {G : gG} {H : Heap} {locs : List Loc} {ls : Array Slot} (hw : gHw X τ G H locs) (hl : lv_has ls 3 [(0, .ref x0), (1, .int x1), (2, .int x2)]) (hok : gOk (b_X7_append_3 τ n x0 x1 x2 G) K) (hc : ∀ (y2 : Int32) (G : gG) (H : Heap) (locs : List Loc) (ls : Array Slot), gHw X τ G H locs → lv_has ls 3 [(0, .ref x0), (1, .int x1), (2, .int y2)] → K (.inl (y2, G)) → W p l e rm_X7_append s m args below meth c H locs 0 0 Q (F0 m 3 ls [])) (hx0 : ∀ (G : gG) (H : Heap) (locs : List Loc) (ls : Array Slot), gHw X τ G H locs → lv_has ls 3 [] → K (.inr G) → W p l e rm_X7_append s m args below meth c H locs 0 0 Q (F0 m 49 ls [])) : W p l e rm_X7_append s m args below meth c H locs 0 0 Q (F0 m 3 ls []) := by
  unfold b_X7_append_3 at hok
  refine lv_iload_n fx.1 fx.2.1 dX7_append_3 rfl (lv_at hl 2 rfl) ?_
  refine g_if_lt (tgt := 49) fx dX7_append_4 (by decide) hok (fun hok => ?_) (fun hok => ?_)
  · exact hx0  G _ _ _  hw (lv_sub hl [] rfl) (gOk_some hok)
  · refine lv_aload_n fx.1 fx.2.1 dX7_append_7 rfl (lv_at hl 0 rfl) ?_
    refine g_geti fx hw h0 lf_RX7_19 rfl dX7_append_8 ?_
    refine lv_sipush (v := 400) fx.1 fx.2.1 dX7_append_11 (by decide) ?_
    refine g_icmp_ge (tgt := 49) fx dX7_append_14 (by decide) hok (fun hok => ?_) (fun hok => ?_)
    · exact hx0  G _ _ _  hw (lv_sub hl [] rfl) (gOk_some hok)
    · refine lv_aload_n fx.1 fx.2.1 dX7_append_17 rfl (lv_at hl 0 rfl) ?_
      refine g_getr fx hw h0 lf_RX7_9 rfl dX7_append_18 hok (fun a1 h_a1 hok => ?_)
      refine lv_aload_n fx.1 fx.2.1 dX7_append_21 rfl (lv_at hl 0 rfl) ?_
      refine g_geti fx hw h0 lf_RX7_19 rfl dX7_append_22 ?_
      refine lv_iload_n fx.1 fx.2.1 dX7_append_25 rfl (lv_at hl 1 rfl) ?_
      refine lv_iload_n fx.1 fx.2.1 dX7_append_26 rfl (lv_at hl 2 rfl) ?_
      refine lv_iushr fx.1 fx.2.1 dX7_append_27 rfl ?_
      refine lv_sipush (v := 255) fx.1 fx.2.1 dX7_append_28 (by decide) ?_
      refine lv_iand fx.1 fx.2.1 dX7_append_31 ?_
      refine g_iast fx hw h_a1 dX7_append_32 hok (fun G2 H locs hw hok => ?_)
      refine lv_aload_n fx.1 fx.2.1 dX7_append_33 rfl (lv_at hl 0 rfl) ?_
      refine lv_dup fx.1 fx.2.1 dX7_append_34 rfl ?_
      refine g_geti fx hw h0 lf_RX7_19 rfl dX7_append_35 ?_
      refine lv_iconst (v := 1) fx.1 fx.2.1 dX7_append_38 (by decide) ?_
      refine lv_iadd fx.1 fx.2.1 dX7_append_39 ?_
      refine g_puti fx hw h0 lp_RX7_19 rfl rfl dX7_append_40 hok (fun G3 H locs hw hok => ?_)
      obtain ⟨v4, e_v4, hok⟩ := gOk_let hok
      refine lv_iinc (v := v4) (lv' := [(2, .int v4), (0, .ref x0), (1, .int x1)]) fx.1 fx.2.1 dX7_append_43 hl (k := 2) rfl (by rw [e_v4]; rfl) (by decide) rfl (fun ls hl => ?_)
      refine lv_goto (tgt := 3) fx.1 fx.2.1 dX7_append_46 (by decide) ?_
      exact hc v4 G3 _ _ _  hw (lv_sub hl [1, 2, 0] rfl) (gOk_some hok)
theorem w_l_X7_append_3 {X : gX} {τ : gτ} {p : Program} {l : Launch} {e : Env} {s : State} {m : MethodId} {args : Array Value} {below : List Frame} {meth : Method} {c : Code} (fx : gFx X p s m args meth c cX7_append 3 RX7) (n : Nat) (x0 : Nat) (x1 : Int32) (h0 : gK τ x0 7) {Q : State → Prop} {K : ((gG)) → Prop} (hx0 : ∀ (G : gG) (H : Heap) (locs : List Loc) (ls : Array Slot), gHw X τ G H locs → lv_has ls 3 [] → K G → W p l e rm_X7_append s m args below meth c H locs 0 0 Q (F0 m 49 ls [])) : ∀ (k : Nat) (x2 : Int32) (G : gG) (H : Heap) (locs : List Loc) (ls : Array Slot), gHw X τ G H locs → lv_has ls 3 [(0, .ref x0), (1, .int x1), (2, .int x2)] → gOk (gIter (fun (q : Int32 × gG) => b_X7_append_3 τ n x0 x1 q.1 q.2) k (x2, G)) K → W p l e rm_X7_append s m args below meth c H locs 0 0 Q (F0 m 3 ls []) := by
  intro k
  induction k with
  | zero =>
    intro x2 G H locs ls hw hl hok
    exact gOk_iter0 hok
  | succ k hc =>
    intro x2 G H locs ls hw hl hok
    exact w_b_X7_append_3 fx n x0 x1 x2 h0 hw hl (gOk_iter hok) hc hx0
set_option maxHeartbeats 4000000 in
set_option maxRecDepth 100000 in
theorem c_X7_append (l : Launch) (X : gX) (τ : gτ) (n : Nat) (x0 : Nat) (x1 : Int32) (G : gG) (h0 : gK τ x0 7) {G' : gG} (h : f_X7_append τ n x0 x1 G = some G') : gM l X τ yX7_append cX7_append 3 none rm_X7_append [.ref x0, .int x1] G none G' := by
  refine g_body (by decide +kernel) (Nat.le_of_ble_eq_true rfl) ?_
  intro p e s m args below meth c ls fx hr hw hl
  have fx : gFx X p s m args meth c cX7_append 3 RX7 := fx
  have hl : lv_has ls 3 [(0, .ref x0), (1, .int x1)] := hl
  have hok : gOk (f_X7_append τ n x0 x1 G) (fun q => q = G') := ⟨_, h, rfl⟩
  unfold f_X7_append at hok
  show W p l e rm_X7_append s m args below meth c s.heap [] 0 0 (MQ below (gQ X τ none G') args s 0 0 (gFree X)) _
  refine lv_bipush (v := 24) fx.1 fx.2.1 dX7_append_0 (by decide) ?_
  refine lv_istore_n (lv' := [(2, .int (24 : Int32)), (0, .ref x0), (1, .int x1)]) fx.1 fx.2.1 dX7_append_2 rfl hl (by decide) rfl (fun ls hl => ?_)
  refine w_l_X7_append_3 fx n x0 x1 h0 ?_ n (24 : Int32) G _ _ _  hw (lv_sub hl [1, 2, 0] rfl) (gOk_bindK hok)
  intro G5 H locs ls hw hl hok
  have hok : gOk (ρ := gG) (some G5) _ := hok
  cases gOk_some hok
  exact g_vret fx hw hr dX7_append_49
theorem dX8_takeYarn_0 : decode cX8_takeYarn 0 = .ok (.aload_n 0, 1) := by decide +kernel
theorem dX8_takeYarn_1 : decode cX8_takeYarn 1 = .ok (.getfield 9, 3) := by decide +kernel
theorem dX8_takeYarn_4 : decode cX8_takeYarn 4 = .ok (.getfield 123, 3) := by decide +kernel
theorem dX8_takeYarn_7 : decode cX8_takeYarn 7 = .ok (.iload_n 1, 1) := by decide +kernel
theorem dX8_takeYarn_8 : decode cX8_takeYarn 8 = .ok (.if_icmp .eq 14, 3) := by decide +kernel
theorem dX8_takeYarn_11 : decode cX8_takeYarn 11 = .ok (.aload_n 0, 1) := by decide +kernel
theorem dX8_takeYarn_12 : decode cX8_takeYarn 12 = .ok (.getfield 9, 3) := by decide +kernel
theorem dX8_takeYarn_15 : decode cX8_takeYarn 15 = .ok (.getfield 123, 3) := by decide +kernel
theorem dX8_takeYarn_18 : decode cX8_takeYarn 18 = .ok (.iload_n 2, 1) := by decide +kernel
theorem dX8_takeYarn_19 : decode cX8_takeYarn 19 = .ok (.if_icmp .ne 10, 3) := by decide +kernel
theorem dX8_takeYarn_22 : decode cX8_takeYarn 22 = .ok (.aload_n 0, 1) := by decide +kernel
theorem dX8_takeYarn_23 : decode cX8_takeYarn 23 = .ok (.getfield 9, 3) := by decide +kernel
theorem dX8_takeYarn_26 : decode cX8_takeYarn 26 = .ok (.invokevirtual 34, 3) := by decide +kernel
theorem dX8_takeYarn_29 : decode cX8_takeYarn 29 = .ok (.aload_n 0, 1) := by decide +kernel
theorem dX8_takeYarn_30 : decode cX8_takeYarn 30 = .ok (.getfield 9, 3) := by decide +kernel
theorem dX8_takeYarn_33 : decode cX8_takeYarn 33 = .ok (.iconst 0, 1) := by decide +kernel
theorem dX8_takeYarn_34 : decode cX8_takeYarn 34 = .ok (.aload_n 0, 1) := by decide +kernel
theorem dX8_takeYarn_35 : decode cX8_takeYarn 35 = .ok (.getfield 15, 3) := by decide +kernel
theorem dX8_takeYarn_38 : decode cX8_takeYarn 38 = .ok (.getfield 40, 3) := by decide +kernel
theorem dX8_takeYarn_41 : decode cX8_takeYarn 41 = .ok (.iconst 1, 1) := by decide +kernel
theorem dX8_takeYarn_42 : decode cX8_takeYarn 42 = .ok (.isub, 1) := by decide +kernel
theorem dX8_takeYarn_43 : decode cX8_takeYarn 43 = .ok (.invokevirtual 88, 3) := by decide +kernel
theorem dX8_takeYarn_46 : decode cX8_takeYarn 46 = .ok (.ireturn, 1) := by decide +kernel
theorem lf_RX8_9 : gLf RX8 9 8 0 := ⟨(RX8, TX8, 2), rfl, by decide, wA_t (wt1 (List.mem_of_getElem? (i := 72) (by decide +kernel))) (by decide +kernel), rfl⟩
theorem lf_RX8_123 : gLf RX8 123 7 5 := ⟨(RX7, TX7, 6), rfl, by decide, wA_t (wt1 (List.mem_of_getElem? (i := 51) (by decide +kernel))) (by decide +kernel), rfl⟩
theorem lv_RX8_34 : gLv RX8 34 RX7 yX7_refuse cX7_refuse 1 none 0 := gLv_of (wA_t (wt4 (List.mem_of_getElem? (i := 19) (by decide +kernel))) (by decide +kernel)) (wA_t (wt3 (List.mem_of_getElem? (i := 231) (by decide +kernel))) (by decide +kernel)) (wA_t (wt3 (List.mem_of_getElem? (i := 232) (by decide +kernel))) (by decide +kernel)) (wA_t (wt1 (List.mem_of_getElem? (i := 2) (by decide +kernel))) (by decide +kernel)) (wA_t (wt3 (List.mem_of_getElem? (i := 233) (by decide +kernel))) (by decide +kernel)) ⟨rfl, by decide +kernel, by decide +kernel, by decide +kernel⟩
theorem lf_RX8_15 : gLf RX8 15 8 1 := ⟨(RX8, TX8, 2), rfl, by decide, wA_t (wt1 (List.mem_of_getElem? (i := 73) (by decide +kernel))) (by decide +kernel), rfl⟩
theorem lf_RX8_40 : gLf RX8 40 6 4 := ⟨(RX6, TX6, 15), rfl, by decide, wA_t (wt2 (List.mem_of_getElem? (i := 17) (by decide +kernel))) (by decide +kernel), rfl⟩
theorem lv_RX8_88 : gLv RX8 88 RX7 yX7_takeNumber cX7_takeNumber 4 (some .int) 2 := gLv_of (wA_t (wt3 (List.mem_of_getElem? (i := 226) (by decide +kernel))) (by decide +kernel)) (wA_t (wt3 (List.mem_of_getElem? (i := 227) (by decide +kernel))) (by decide +kernel)) (wA_t (wt3 (List.mem_of_getElem? (i := 228) (by decide +kernel))) (by decide +kernel)) (wA_t (wt1 (List.mem_of_getElem? (i := 2) (by decide +kernel))) (by decide +kernel)) (wA_t (wt3 (List.mem_of_getElem? (i := 229) (by decide +kernel))) (by decide +kernel)) ⟨rfl, by decide +kernel, by decide +kernel, by decide +kernel⟩
def rm_X8_takeYarn : Room := { frames := 2, cells := 0, slots := 0, locals := 44 }
def k_X8_takeYarn_29 (τ : gτ) (n : Nat) (x0 : Nat)  (G : gG) : Option (Int32 × gG) :=
  (gr G 8 0 x0).bind fun a4 =>
  (gr G 8 1 x0).bind fun a5 =>
  gBind2 (f_X7_takeNumber τ n a4 (0 : Int32) ((gi G 6 4 a5) - (1 : Int32)) G) fun v6 G7 =>
  some (v6, G7)
def k_X8_takeYarn_22 (τ : gτ) (n : Nat) (x0 : Nat)  (G : gG) : Option (Int32 × gG) :=
  (gr G 8 0 x0).bind fun a2 =>
  (f_X7_refuse a2 G).bind fun G3 =>
  k_X8_takeYarn_29 τ n x0  G3
def f_X8_takeYarn (τ : gτ) (n : Nat) (x0 : Nat) (x1 : Int32) (x2 : Int32) (G : gG) : Option (Int32 × gG) :=
  (gr G 8 0 x0).bind fun a1 =>
  if (gi G 7 5 a1) = x1 then (k_X8_takeYarn_22 τ n x0  G)
  else ((gr G 8 0 x0).bind fun a8 =>
  if (gi G 7 5 a8) = x2 then (k_X8_takeYarn_22 τ n x0  G)
  else (k_X8_takeYarn_29 τ n x0  G))
set_option maxHeartbeats 4000000 in
set_option maxRecDepth 100000 in
theorem w_X8_takeYarn_29 {X : gX} {τ : gτ} {p : Program} {l : Launch} {e : Env} {s : State} {m : MethodId} {args : Array Value} {below : List Frame} {meth : Method} {c : Code} (fx : gFx X p s m args meth c cX8_takeYarn 3 RX8) (n : Nat) (x0 : Nat)  (h0 : gK τ x0 8)  (hr : meth.sig.returnType = (some .int)) {r : Int32} {G' : gG} {G : gG} {H : Heap} {locs : List Loc} {ls : Array Slot} (hw : gHw X τ G H locs) (hl : lv_has ls 3 [(0, .ref x0)]) (hok : gOk (k_X8_takeYarn_29 τ n x0  G) (fun q => q = (r, G')))  : W p l e rm_X8_takeYarn s m args below meth c H locs 0 0 (MQ below (gQ X τ (some (.int r)) G') args s 0 0 (gFree X)) (F0 m 29 ls []) := by
  unfold k_X8_takeYarn_29 at hok
  refine lv_aload_n fx.1 fx.2.1 dX8_takeYarn_29 rfl (lv_at hl 0 rfl) ?_
  refine g_getr fx hw h0 lf_RX8_9 rfl dX8_takeYarn_30 hok (fun a4 h_a4 hok => ?_)
  refine lv_iconst (v := 0) fx.1 fx.2.1 dX8_takeYarn_33 (by decide) ?_
  refine lv_aload_n fx.1 fx.2.1 dX8_takeYarn_34 rfl (lv_at hl 0 rfl) ?_
  refine g_getr fx hw h0 lf_RX8_15 rfl dX8_takeYarn_35 hok (fun a5 h_a5 hok => ?_)
  refine g_geti fx hw h_a5 lf_RX8_40 rfl dX8_takeYarn_38 ?_
  refine lv_iconst (v := 1) fx.1 fx.2.1 dX8_takeYarn_41 (by decide) ?_
  refine lv_isub fx.1 fx.2.1 dX8_takeYarn_42 ?_
  obtain ⟨v6, G7, hf, hok⟩ := gOk_bind2 hok
  refine g_callV0 (κ := 7) fx hw (c_X7_takeNumber l X τ n a4 (0 : Int32) ((gi G 6 4 a5) - (1 : Int32)) G h_a4 hf) lv_RX8_88 ⟨rfl, rfl⟩ rfl rfl h_a4 rfl hl.1 rfl ⟨Nat.le_of_ble_eq_true rfl, Nat.le_of_ble_eq_true rfl⟩ (Nat.le_of_ble_eq_true rfl) ⟨Nat.le_of_ble_eq_true rfl, Nat.le_of_ble_eq_true rfl⟩ dX8_takeYarn_43 (fun H locs hw => ?_)
  cases gOk_some hok
  exact g_iret fx hw hr dX8_takeYarn_46
set_option maxHeartbeats 4000000 in
set_option maxRecDepth 100000 in
theorem w_X8_takeYarn_22 {X : gX} {τ : gτ} {p : Program} {l : Launch} {e : Env} {s : State} {m : MethodId} {args : Array Value} {below : List Frame} {meth : Method} {c : Code} (fx : gFx X p s m args meth c cX8_takeYarn 3 RX8) (n : Nat) (x0 : Nat)  (h0 : gK τ x0 8)  (hr : meth.sig.returnType = (some .int)) {r : Int32} {G' : gG} {G : gG} {H : Heap} {locs : List Loc} {ls : Array Slot} (hw : gHw X τ G H locs) (hl : lv_has ls 3 [(0, .ref x0)]) (hok : gOk (k_X8_takeYarn_22 τ n x0  G) (fun q => q = (r, G')))  : W p l e rm_X8_takeYarn s m args below meth c H locs 0 0 (MQ below (gQ X τ (some (.int r)) G') args s 0 0 (gFree X)) (F0 m 22 ls []) := by
  unfold k_X8_takeYarn_22 at hok
  refine lv_aload_n fx.1 fx.2.1 dX8_takeYarn_22 rfl (lv_at hl 0 rfl) ?_
  refine g_getr fx hw h0 lf_RX8_9 rfl dX8_takeYarn_23 hok (fun a2 h_a2 hok => ?_)
  obtain ⟨G3, hf, hok⟩ := gOk_bind hok
  refine g_callV0 (κ := 7) fx hw (c_X7_refuse l X τ a2 G h_a2 hf) lv_RX8_34 ⟨rfl, rfl⟩ rfl rfl h_a2 rfl hl.1 rfl ⟨Nat.le_of_ble_eq_true rfl, Nat.le_of_ble_eq_true rfl⟩ (Nat.le_of_ble_eq_true rfl) ⟨Nat.le_of_ble_eq_true rfl, Nat.le_of_ble_eq_true rfl⟩ dX8_takeYarn_26 (fun H locs hw => ?_)
  exact w_X8_takeYarn_29 fx n x0  h0  hr hw (lv_sub hl [0] rfl) hok
set_option maxHeartbeats 4000000 in
set_option maxRecDepth 100000 in
theorem c_X8_takeYarn (l : Launch) (X : gX) (τ : gτ) (n : Nat) (x0 : Nat) (x1 : Int32) (x2 : Int32) (G : gG) (h0 : gK τ x0 8) {r : Int32} {G' : gG} (h : f_X8_takeYarn τ n x0 x1 x2 G = some (r, G')) : gM l X τ yX8_takeYarn cX8_takeYarn 3 (some .int) rm_X8_takeYarn [.ref x0, .int x1, .int x2] G (some (.int r)) G' := by
  refine g_body (by decide +kernel) (Nat.le_of_ble_eq_true rfl) ?_
  intro p e s m args below meth c ls fx hr hw hl
  have fx : gFx X p s m args meth c cX8_takeYarn 3 RX8 := fx
  have hl : lv_has ls 3 [(0, .ref x0), (1, .int x1), (2, .int x2)] := hl
  have hok : gOk (f_X8_takeYarn τ n x0 x1 x2 G) (fun q => q = (r, G')) := ⟨_, h, rfl⟩
  unfold f_X8_takeYarn at hok
  show W p l e rm_X8_takeYarn s m args below meth c s.heap [] 0 0 (MQ below (gQ X τ (some (.int r)) G') args s 0 0 (gFree X)) _
  refine lv_aload_n fx.1 fx.2.1 dX8_takeYarn_0 rfl (lv_at hl 0 rfl) ?_
  refine g_getr fx hw h0 lf_RX8_9 rfl dX8_takeYarn_1 hok (fun a1 h_a1 hok => ?_)
  refine g_geti fx hw h_a1 lf_RX8_123 rfl dX8_takeYarn_4 ?_
  refine lv_iload_n fx.1 fx.2.1 dX8_takeYarn_7 rfl (lv_at hl 1 rfl) ?_
  refine g_icmp_eq (tgt := 22) fx dX8_takeYarn_8 (by decide) hok (fun hok => ?_) (fun hok => ?_)
  · exact w_X8_takeYarn_22 fx n x0  h0  hr hw (lv_sub hl [0] rfl) hok
  · refine lv_aload_n fx.1 fx.2.1 dX8_takeYarn_11 rfl (lv_at hl 0 rfl) ?_
    refine g_getr fx hw h0 lf_RX8_9 rfl dX8_takeYarn_12 hok (fun a8 h_a8 hok => ?_)
    refine g_geti fx hw h_a8 lf_RX8_123 rfl dX8_takeYarn_15 ?_
    refine lv_iload_n fx.1 fx.2.1 dX8_takeYarn_18 rfl (lv_at hl 2 rfl) ?_
    refine g_icmp_ne (tgt := 29) fx dX8_takeYarn_19 (by decide) hok (fun hok => ?_) (fun hok => ?_)
    · exact w_X8_takeYarn_22 fx n x0  h0  hr hw (lv_sub hl [0] rfl) hok
    · exact w_X8_takeYarn_29 fx n x0  h0  hr hw (lv_sub hl [0] rfl) hok
