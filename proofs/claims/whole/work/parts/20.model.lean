theorem dX11_lays_0 : decode cX11_lays 0 = .ok (.iconst 0, 1) := by decide +kernel
theorem dX11_lays_1 : decode cX11_lays 1 = .ok (.istore 6, 2) := by decide +kernel
theorem dX11_lays_3 : decode cX11_lays 3 = .ok (.iload 6, 2) := by decide +kernel
theorem dX11_lays_5 : decode cX11_lays 5 = .ok (.bipush 10, 2) := by decide +kernel
theorem dX11_lays_7 : decode cX11_lays 7 = .ok (.if_icmp .ge 21, 3) := by decide +kernel
theorem dX11_lays_10 : decode cX11_lays 10 = .ok (.aload_n 0, 1) := by decide +kernel
theorem dX11_lays_11 : decode cX11_lays 11 = .ok (.getfield 13, 3) := by decide +kernel
theorem dX11_lays_14 : decode cX11_lays 14 = .ok (.iload_n 1, 1) := by decide +kernel
theorem dX11_lays_15 : decode cX11_lays 15 = .ok (.iload 6, 2) := by decide +kernel
theorem dX11_lays_17 : decode cX11_lays 17 = .ok (.invokestatic 59, 3) := by decide +kernel
theorem dX11_lays_20 : decode cX11_lays 20 = .ok (.iconst 0, 1) := by decide +kernel
theorem dX11_lays_21 : decode cX11_lays 21 = .ok (.iastore, 1) := by decide +kernel
theorem dX11_lays_22 : decode cX11_lays 22 = .ok (.iinc 6 1, 3) := by decide +kernel
theorem dX11_lays_25 : decode cX11_lays 25 = .ok (.goto (-22), 3) := by decide +kernel
theorem dX11_lays_28 : decode cX11_lays 28 = .ok (.aload_n 0, 1) := by decide +kernel
theorem dX11_lays_29 : decode cX11_lays 29 = .ok (.getfield 13, 3) := by decide +kernel
theorem dX11_lays_32 : decode cX11_lays 32 = .ok (.iload_n 1, 1) := by decide +kernel
theorem dX11_lays_33 : decode cX11_lays 33 = .ok (.iconst 0, 1) := by decide +kernel
theorem dX11_lays_34 : decode cX11_lays 34 = .ok (.invokestatic 59, 3) := by decide +kernel
theorem dX11_lays_37 : decode cX11_lays 37 = .ok (.iload_n 2, 1) := by decide +kernel
theorem dX11_lays_38 : decode cX11_lays 38 = .ok (.iastore, 1) := by decide +kernel
theorem dX11_lays_39 : decode cX11_lays 39 = .ok (.aload_n 0, 1) := by decide +kernel
theorem dX11_lays_40 : decode cX11_lays 40 = .ok (.getfield 13, 3) := by decide +kernel
theorem dX11_lays_43 : decode cX11_lays 43 = .ok (.iload_n 1, 1) := by decide +kernel
theorem dX11_lays_44 : decode cX11_lays 44 = .ok (.iconst 1, 1) := by decide +kernel
theorem dX11_lays_45 : decode cX11_lays 45 = .ok (.invokestatic 59, 3) := by decide +kernel
theorem dX11_lays_48 : decode cX11_lays 48 = .ok (.iload_n 3, 1) := by decide +kernel
theorem dX11_lays_49 : decode cX11_lays 49 = .ok (.iastore, 1) := by decide +kernel
theorem dX11_lays_50 : decode cX11_lays 50 = .ok (.aload_n 0, 1) := by decide +kernel
theorem dX11_lays_51 : decode cX11_lays 51 = .ok (.getfield 13, 3) := by decide +kernel
theorem dX11_lays_54 : decode cX11_lays 54 = .ok (.iload_n 1, 1) := by decide +kernel
theorem dX11_lays_55 : decode cX11_lays 55 = .ok (.iconst 2, 1) := by decide +kernel
theorem dX11_lays_56 : decode cX11_lays 56 = .ok (.invokestatic 59, 3) := by decide +kernel
theorem dX11_lays_59 : decode cX11_lays 59 = .ok (.iload 4, 2) := by decide +kernel
theorem dX11_lays_61 : decode cX11_lays 61 = .ok (.iastore, 1) := by decide +kernel
theorem dX11_lays_62 : decode cX11_lays 62 = .ok (.aload_n 0, 1) := by decide +kernel
theorem dX11_lays_63 : decode cX11_lays 63 = .ok (.getfield 13, 3) := by decide +kernel
theorem dX11_lays_66 : decode cX11_lays 66 = .ok (.iload_n 1, 1) := by decide +kernel
theorem dX11_lays_67 : decode cX11_lays 67 = .ok (.iconst 3, 1) := by decide +kernel
theorem dX11_lays_68 : decode cX11_lays 68 = .ok (.invokestatic 59, 3) := by decide +kernel
theorem dX11_lays_71 : decode cX11_lays 71 = .ok (.iload 5, 2) := by decide +kernel
theorem dX11_lays_73 : decode cX11_lays 73 = .ok (.iastore, 1) := by decide +kernel
theorem dX11_lays_74 : decode cX11_lays 74 = .ok (.aload_n 0, 1) := by decide +kernel
theorem dX11_lays_75 : decode cX11_lays 75 = .ok (.getfield 13, 3) := by decide +kernel
theorem dX11_lays_78 : decode cX11_lays 78 = .ok (.iload_n 1, 1) := by decide +kernel
theorem dX11_lays_79 : decode cX11_lays 79 = .ok (.bipush 7, 2) := by decide +kernel
theorem dX11_lays_81 : decode cX11_lays 81 = .ok (.invokestatic 59, 3) := by decide +kernel
theorem dX11_lays_84 : decode cX11_lays 84 = .ok (.iconst 1, 1) := by decide +kernel
theorem dX11_lays_85 : decode cX11_lays 85 = .ok (.iastore, 1) := by decide +kernel
theorem dX11_lays_86 : decode cX11_lays 86 = .ok (.return_, 1) := by decide +kernel
def rm_X11_lays : Room := { frames := 1, cells := 0, slots := 0, locals := 21 }
def b_X11_lays_3 (τ : gτ) (n : Nat) (x0 : Nat) (x1 : Int32) (x2 : Int32) (x3 : Int32) (x4 : Int32) (x5 : Int32) (x6 : Int32) (G : gG) : Option ((Int32 × gG) ⊕ ((gG))) :=
  if (10 : Int32) ≤ x6 then (some (.inr G))
  else ((gr G 11 1 x0).bind fun a1 =>
  (f_X11_at x1 x6).bind fun v2 =>
  gchk (gIn v2 (gn τ a1)) <| gLet (gse G a1 (Int32.toNatClampNeg v2) (0 : Int32)) fun G3 =>
  gLet (x6 + 1) fun v4 =>
  some (.inl (v4, G3)))
def l_X11_lays_3 (τ : gτ) (n : Nat) (x0 : Nat) (x1 : Int32) (x2 : Int32) (x3 : Int32) (x4 : Int32) (x5 : Int32) (x6 : Int32) (G : gG) : Option ((gG)) :=
  gIter (fun (q : Int32 × gG) => b_X11_lays_3 τ n x0 x1 x2 x3 x4 x5 q.1 q.2) n (x6, G)
def k_X11_lays_28 (τ : gτ) (n : Nat) (x0 : Nat) (x1 : Int32) (x2 : Int32) (x3 : Int32) (x4 : Int32) (x5 : Int32)  (G : gG) : Option (gG) :=
  (gr G 11 1 x0).bind fun a6 =>
  (f_X11_at x1 (0 : Int32)).bind fun v7 =>
  gchk (gIn v7 (gn τ a6)) <| gLet (gse G a6 (Int32.toNatClampNeg v7) x2) fun G8 =>
  (gr G8 11 1 x0).bind fun a9 =>
  (f_X11_at x1 (1 : Int32)).bind fun v10 =>
  gchk (gIn v10 (gn τ a9)) <| gLet (gse G8 a9 (Int32.toNatClampNeg v10) x3) fun G11 =>
  (gr G11 11 1 x0).bind fun a12 =>
  (f_X11_at x1 (2 : Int32)).bind fun v13 =>
  gchk (gIn v13 (gn τ a12)) <| gLet (gse G11 a12 (Int32.toNatClampNeg v13) x4) fun G14 =>
  (gr G14 11 1 x0).bind fun a15 =>
  (f_X11_at x1 (3 : Int32)).bind fun v16 =>
  gchk (gIn v16 (gn τ a15)) <| gLet (gse G14 a15 (Int32.toNatClampNeg v16) x5) fun G17 =>
  (gr G17 11 1 x0).bind fun a18 =>
  (f_X11_at x1 (7 : Int32)).bind fun v19 =>
  gchk (gIn v19 (gn τ a18)) <| gLet (gse G17 a18 (Int32.toNatClampNeg v19) (1 : Int32)) fun G20 =>
  some G20
def f_X11_lays (τ : gτ) (n : Nat) (x0 : Nat) (x1 : Int32) (x2 : Int32) (x3 : Int32) (x4 : Int32) (x5 : Int32) (G : gG) : Option (gG) :=
  (l_X11_lays_3 τ n x0 x1 x2 x3 x4 x5 (0 : Int32) G).bind fun q => gLet q fun G5 => 
  k_X11_lays_28 τ n x0 x1 x2 x3 x4 x5  G5
set_option maxHeartbeats 4000000 in
set_option maxRecDepth 100000 in
theorem w_b_X11_lays_3 {X : gX} {τ : gτ} {p : Program} {l : Launch} {e : Env} {s : State} {m : MethodId} {args : Array Value} {below : List Frame} {meth : Method} {c : Code} (fx : gFx X p s m args meth c cX11_lays 7 RX11) (n : Nat) (x0 : Nat) (x1 : Int32) (x2 : Int32) (x3 : Int32) (x4 : Int32) (x5 : Int32) (x6 : Int32) (h0 : gK τ x0 11) {Q : State → Prop} {K : ((Int32 × gG) ⊕ ((gG))) → Prop} {G : gG} {H : Heap} {locs : List Loc} {ls : Array Slot} (hw : gHw X τ G H locs) (hl : lv_has ls 7 [(0, .ref x0), (1, .int x1), (2, .int x2), (3, .int x3), (4, .int x4), (5, .int x5), (6, .int x6)]) (hok : gOk (b_X11_lays_3 τ n x0 x1 x2 x3 x4 x5 x6 G) K) (hc : ∀ (y6 : Int32) (G : gG) (H : Heap) (locs : List Loc) (ls : Array Slot), gHw X τ G H locs → lv_has ls 7 [(0, .ref x0), (1, .int x1), (2, .int x2), (3, .int x3), (4, .int x4), (5, .int x5), (6, .int y6)] → K (.inl (y6, G)) → W p l e rm_X11_lays s m args below meth c H locs 0 0 Q (F0 m 3 ls [])) (hx0 : ∀ (G : gG) (H : Heap) (locs : List Loc) (ls : Array Slot), gHw X τ G H locs → lv_has ls 7 [(0, .ref x0), (1, .int x1), (2, .int x2), (3, .int x3), (4, .int x4), (5, .int x5)] → K (.inr G) → W p l e rm_X11_lays s m args below meth c H locs 0 0 Q (F0 m 28 ls [])) : W p l e rm_X11_lays s m args below meth c H locs 0 0 Q (F0 m 3 ls []) := by
  unfold b_X11_lays_3 at hok
  refine lv_iload fx.1 fx.2.1 dX11_lays_3 (lv_at hl 6 rfl) ?_
  refine lv_bipush (v := 10) fx.1 fx.2.1 dX11_lays_5 (by decide) ?_
  refine g_icmp_ge (tgt := 28) fx dX11_lays_7 (by decide) hok (fun hok => ?_) (fun hok => ?_)
  · exact hx0  G _ _ _  hw (lv_sub hl [0, 1, 2, 3, 4, 5] rfl) (gOk_some hok)
  · refine lv_aload_n fx.1 fx.2.1 dX11_lays_10 rfl (lv_at hl 0 rfl) ?_
    refine g_getr fx hw h0 lf_RX11_13 rfl dX11_lays_11 hok (fun a1 h_a1 hok => ?_)
    refine lv_iload_n fx.1 fx.2.1 dX11_lays_14 rfl (lv_at hl 1 rfl) ?_
    refine lv_iload fx.1 fx.2.1 dX11_lays_15 (lv_at hl 6 rfl) ?_
    obtain ⟨v2, hf, hok⟩ := gOk_bind hok
    refine g_callS0 fx hw (c_X11_at l X τ x1 x6 G  hf) ls_RX11_59 ⟨rfl, rfl⟩ rfl hl.1 rfl ⟨Nat.le_of_ble_eq_true rfl, Nat.le_of_ble_eq_true rfl⟩ (Nat.le_of_ble_eq_true rfl) ⟨Nat.le_of_ble_eq_true rfl, Nat.le_of_ble_eq_true rfl⟩ dX11_lays_17 (fun H locs hw => ?_)
    refine lv_iconst (v := 0) fx.1 fx.2.1 dX11_lays_20 (by decide) ?_
    refine g_iast fx hw h_a1 dX11_lays_21 hok (fun G3 H locs hw hok => ?_)
    obtain ⟨v4, e_v4, hok⟩ := gOk_let hok
    refine lv_iinc (v := v4) (lv' := [(6, .int v4), (0, .ref x0), (1, .int x1), (2, .int x2), (3, .int x3), (4, .int x4), (5, .int x5)]) fx.1 fx.2.1 dX11_lays_22 hl (k := 6) rfl (by rw [e_v4]; rfl) (by decide) rfl (fun ls hl => ?_)
    refine lv_goto (tgt := 3) fx.1 fx.2.1 dX11_lays_25 (by decide) ?_
    exact hc v4 G3 _ _ _  hw (lv_sub hl [1, 2, 3, 4, 5, 6, 0] rfl) (gOk_some hok)
theorem w_l_X11_lays_3 {X : gX} {τ : gτ} {p : Program} {l : Launch} {e : Env} {s : State} {m : MethodId} {args : Array Value} {below : List Frame} {meth : Method} {c : Code} (fx : gFx X p s m args meth c cX11_lays 7 RX11) (n : Nat) (x0 : Nat) (x1 : Int32) (x2 : Int32) (x3 : Int32) (x4 : Int32) (x5 : Int32) (h0 : gK τ x0 11) {Q : State → Prop} {K : ((gG)) → Prop} (hx0 : ∀ (G : gG) (H : Heap) (locs : List Loc) (ls : Array Slot), gHw X τ G H locs → lv_has ls 7 [(0, .ref x0), (1, .int x1), (2, .int x2), (3, .int x3), (4, .int x4), (5, .int x5)] → K G → W p l e rm_X11_lays s m args below meth c H locs 0 0 Q (F0 m 28 ls [])) : ∀ (k : Nat) (x6 : Int32) (G : gG) (H : Heap) (locs : List Loc) (ls : Array Slot), gHw X τ G H locs → lv_has ls 7 [(0, .ref x0), (1, .int x1), (2, .int x2), (3, .int x3), (4, .int x4), (5, .int x5), (6, .int x6)] → gOk (gIter (fun (q : Int32 × gG) => b_X11_lays_3 τ n x0 x1 x2 x3 x4 x5 q.1 q.2) k (x6, G)) K → W p l e rm_X11_lays s m args below meth c H locs 0 0 Q (F0 m 3 ls []) := by
  intro k
  induction k with
  | zero =>
    intro x6 G H locs ls hw hl hok
    exact gOk_iter0 hok
  | succ k hc =>
    intro x6 G H locs ls hw hl hok
    exact w_b_X11_lays_3 fx n x0 x1 x2 x3 x4 x5 x6 h0 hw hl (gOk_iter hok) hc hx0
set_option maxHeartbeats 4000000 in
set_option maxRecDepth 100000 in
theorem w_X11_lays_28 {X : gX} {τ : gτ} {p : Program} {l : Launch} {e : Env} {s : State} {m : MethodId} {args : Array Value} {below : List Frame} {meth : Method} {c : Code} (fx : gFx X p s m args meth c cX11_lays 7 RX11) (n : Nat) (x0 : Nat) (x1 : Int32) (x2 : Int32) (x3 : Int32) (x4 : Int32) (x5 : Int32)  (h0 : gK τ x0 11)  (hr : meth.sig.returnType = none) {G' : gG} {G : gG} {H : Heap} {locs : List Loc} {ls : Array Slot} (hw : gHw X τ G H locs) (hl : lv_has ls 7 [(0, .ref x0), (1, .int x1), (2, .int x2), (3, .int x3), (4, .int x4), (5, .int x5)]) (hok : gOk (k_X11_lays_28 τ n x0 x1 x2 x3 x4 x5  G) (fun q => q = G'))  : W p l e rm_X11_lays s m args below meth c H locs 0 0 (MQ below (gQ X τ none G') args s 0 0 (gFree X)) (F0 m 28 ls []) := by
  unfold k_X11_lays_28 at hok
  refine lv_aload_n fx.1 fx.2.1 dX11_lays_28 rfl (lv_at hl 0 rfl) ?_
  refine g_getr fx hw h0 lf_RX11_13 rfl dX11_lays_29 hok (fun a6 h_a6 hok => ?_)
  refine lv_iload_n fx.1 fx.2.1 dX11_lays_32 rfl (lv_at hl 1 rfl) ?_
  refine lv_iconst (v := 0) fx.1 fx.2.1 dX11_lays_33 (by decide) ?_
  obtain ⟨v7, hf, hok⟩ := gOk_bind hok
  refine g_callS0 fx hw (c_X11_at l X τ x1 (0 : Int32) G  hf) ls_RX11_59 ⟨rfl, rfl⟩ rfl hl.1 rfl ⟨Nat.le_of_ble_eq_true rfl, Nat.le_of_ble_eq_true rfl⟩ (Nat.le_of_ble_eq_true rfl) ⟨Nat.le_of_ble_eq_true rfl, Nat.le_of_ble_eq_true rfl⟩ dX11_lays_34 (fun H locs hw => ?_)
  refine lv_iload_n fx.1 fx.2.1 dX11_lays_37 rfl (lv_at hl 2 rfl) ?_
  refine g_iast fx hw h_a6 dX11_lays_38 hok (fun G8 H locs hw hok => ?_)
  refine lv_aload_n fx.1 fx.2.1 dX11_lays_39 rfl (lv_at hl 0 rfl) ?_
  refine g_getr fx hw h0 lf_RX11_13 rfl dX11_lays_40 hok (fun a9 h_a9 hok => ?_)
  refine lv_iload_n fx.1 fx.2.1 dX11_lays_43 rfl (lv_at hl 1 rfl) ?_
  refine lv_iconst (v := 1) fx.1 fx.2.1 dX11_lays_44 (by decide) ?_
  obtain ⟨v10, hf, hok⟩ := gOk_bind hok
  refine g_callS0 fx hw (c_X11_at l X τ x1 (1 : Int32) G8  hf) ls_RX11_59 ⟨rfl, rfl⟩ rfl hl.1 rfl ⟨Nat.le_of_ble_eq_true rfl, Nat.le_of_ble_eq_true rfl⟩ (Nat.le_of_ble_eq_true rfl) ⟨Nat.le_of_ble_eq_true rfl, Nat.le_of_ble_eq_true rfl⟩ dX11_lays_45 (fun H locs hw => ?_)
  refine lv_iload_n fx.1 fx.2.1 dX11_lays_48 rfl (lv_at hl 3 rfl) ?_
  refine g_iast fx hw h_a9 dX11_lays_49 hok (fun G11 H locs hw hok => ?_)
  refine lv_aload_n fx.1 fx.2.1 dX11_lays_50 rfl (lv_at hl 0 rfl) ?_
  refine g_getr fx hw h0 lf_RX11_13 rfl dX11_lays_51 hok (fun a12 h_a12 hok => ?_)
  refine lv_iload_n fx.1 fx.2.1 dX11_lays_54 rfl (lv_at hl 1 rfl) ?_
  refine lv_iconst (v := 2) fx.1 fx.2.1 dX11_lays_55 (by decide) ?_
  obtain ⟨v13, hf, hok⟩ := gOk_bind hok
  refine g_callS0 fx hw (c_X11_at l X τ x1 (2 : Int32) G11  hf) ls_RX11_59 ⟨rfl, rfl⟩ rfl hl.1 rfl ⟨Nat.le_of_ble_eq_true rfl, Nat.le_of_ble_eq_true rfl⟩ (Nat.le_of_ble_eq_true rfl) ⟨Nat.le_of_ble_eq_true rfl, Nat.le_of_ble_eq_true rfl⟩ dX11_lays_56 (fun H locs hw => ?_)
  refine lv_iload fx.1 fx.2.1 dX11_lays_59 (lv_at hl 4 rfl) ?_
  refine g_iast fx hw h_a12 dX11_lays_61 hok (fun G14 H locs hw hok => ?_)
  refine lv_aload_n fx.1 fx.2.1 dX11_lays_62 rfl (lv_at hl 0 rfl) ?_
  refine g_getr fx hw h0 lf_RX11_13 rfl dX11_lays_63 hok (fun a15 h_a15 hok => ?_)
  refine lv_iload_n fx.1 fx.2.1 dX11_lays_66 rfl (lv_at hl 1 rfl) ?_
  refine lv_iconst (v := 3) fx.1 fx.2.1 dX11_lays_67 (by decide) ?_
  obtain ⟨v16, hf, hok⟩ := gOk_bind hok
  refine g_callS0 fx hw (c_X11_at l X τ x1 (3 : Int32) G14  hf) ls_RX11_59 ⟨rfl, rfl⟩ rfl hl.1 rfl ⟨Nat.le_of_ble_eq_true rfl, Nat.le_of_ble_eq_true rfl⟩ (Nat.le_of_ble_eq_true rfl) ⟨Nat.le_of_ble_eq_true rfl, Nat.le_of_ble_eq_true rfl⟩ dX11_lays_68 (fun H locs hw => ?_)
  refine lv_iload fx.1 fx.2.1 dX11_lays_71 (lv_at hl 5 rfl) ?_
  refine g_iast fx hw h_a15 dX11_lays_73 hok (fun G17 H locs hw hok => ?_)
  refine lv_aload_n fx.1 fx.2.1 dX11_lays_74 rfl (lv_at hl 0 rfl) ?_
  refine g_getr fx hw h0 lf_RX11_13 rfl dX11_lays_75 hok (fun a18 h_a18 hok => ?_)
  refine lv_iload_n fx.1 fx.2.1 dX11_lays_78 rfl (lv_at hl 1 rfl) ?_
  refine lv_bipush (v := 7) fx.1 fx.2.1 dX11_lays_79 (by decide) ?_
  obtain ⟨v19, hf, hok⟩ := gOk_bind hok
  refine g_callS0 fx hw (c_X11_at l X τ x1 (7 : Int32) G17  hf) ls_RX11_59 ⟨rfl, rfl⟩ rfl hl.1 rfl ⟨Nat.le_of_ble_eq_true rfl, Nat.le_of_ble_eq_true rfl⟩ (Nat.le_of_ble_eq_true rfl) ⟨Nat.le_of_ble_eq_true rfl, Nat.le_of_ble_eq_true rfl⟩ dX11_lays_81 (fun H locs hw => ?_)
  refine lv_iconst (v := 1) fx.1 fx.2.1 dX11_lays_84 (by decide) ?_
  refine g_iast fx hw h_a18 dX11_lays_85 hok (fun G20 H locs hw hok => ?_)
  cases gOk_some hok
  exact g_vret fx hw hr dX11_lays_86
set_option maxHeartbeats 4000000 in
set_option maxRecDepth 100000 in
theorem c_X11_lays (l : Launch) (X : gX) (τ : gτ) (n : Nat) (x0 : Nat) (x1 : Int32) (x2 : Int32) (x3 : Int32) (x4 : Int32) (x5 : Int32) (G : gG) (h0 : gK τ x0 11) {G' : gG} (h : f_X11_lays τ n x0 x1 x2 x3 x4 x5 G = some G') : gM l X τ yX11_lays cX11_lays 7 none rm_X11_lays [.ref x0, .int x1, .int x2, .int x3, .int x4, .int x5] G none G' := by
  refine g_body (by decide +kernel) (Nat.le_of_ble_eq_true rfl) ?_
  intro p e s m args below meth c ls fx hr hw hl
  have fx : gFx X p s m args meth c cX11_lays 7 RX11 := fx
  have hl : lv_has ls 7 [(0, .ref x0), (1, .int x1), (2, .int x2), (3, .int x3), (4, .int x4), (5, .int x5)] := hl
  have hok : gOk (f_X11_lays τ n x0 x1 x2 x3 x4 x5 G) (fun q => q = G') := ⟨_, h, rfl⟩
  unfold f_X11_lays at hok
  show W p l e rm_X11_lays s m args below meth c s.heap [] 0 0 (MQ below (gQ X τ none G') args s 0 0 (gFree X)) _
  refine lv_iconst (v := 0) fx.1 fx.2.1 dX11_lays_0 (by decide) ?_
  refine lv_istore (lv' := [(6, .int (0 : Int32)), (0, .ref x0), (1, .int x1), (2, .int x2), (3, .int x3), (4, .int x4), (5, .int x5)]) fx.1 fx.2.1 dX11_lays_1 hl (by decide) rfl (fun ls hl => ?_)
  refine w_l_X11_lays_3 fx n x0 x1 x2 x3 x4 x5 h0 ?_ n (0 : Int32) G _ _ _  hw (lv_sub hl [1, 2, 3, 4, 5, 6, 0] rfl) (gOk_bindK hok)
  intro G5 H locs ls hw hl hok
  have hok : gOk (ρ := gG) (k_X11_lays_28 τ n x0 x1 x2 x3 x4 x5  G5) _ := hok
  exact w_X11_lays_28 fx n x0 x1 x2 x3 x4 x5  h0  hr hw (lv_sub hl [0, 1, 2, 3, 4, 5] rfl) hok
theorem dX11_takes_0 : decode cX11_takes 0 = .ok (.aload_n 0, 1) := by decide +kernel
theorem dX11_takes_1 : decode cX11_takes 1 = .ok (.aload_n 0, 1) := by decide +kernel
theorem dX11_takes_2 : decode cX11_takes 2 = .ok (.invokevirtual 73, 3) := by decide +kernel
theorem dX11_takes_5 : decode cX11_takes 5 = .ok (.iload_n 1, 1) := by decide +kernel
theorem dX11_takes_6 : decode cX11_takes 6 = .ok (.iload_n 2, 1) := by decide +kernel
theorem dX11_takes_7 : decode cX11_takes 7 = .ok (.iload_n 3, 1) := by decide +kernel
theorem dX11_takes_8 : decode cX11_takes 8 = .ok (.iload 4, 2) := by decide +kernel
theorem dX11_takes_10 : decode cX11_takes 10 = .ok (.invokevirtual 128, 3) := by decide +kernel
theorem dX11_takes_13 : decode cX11_takes 13 = .ok (.iconst 0, 1) := by decide +kernel
theorem dX11_takes_14 : decode cX11_takes 14 = .ok (.istore 5, 2) := by decide +kernel
theorem dX11_takes_16 : decode cX11_takes 16 = .ok (.iload 5, 2) := by decide +kernel
theorem dX11_takes_18 : decode cX11_takes 18 = .ok (.iconst 3, 1) := by decide +kernel
theorem dX11_takes_19 : decode cX11_takes 19 = .ok (.if_icmp .ge 33, 3) := by decide +kernel
theorem dX11_takes_22 : decode cX11_takes 22 = .ok (.aload_n 0, 1) := by decide +kernel
theorem dX11_takes_23 : decode cX11_takes 23 = .ok (.getfield 13, 3) := by decide +kernel
theorem dX11_takes_26 : decode cX11_takes 26 = .ok (.aload_n 0, 1) := by decide +kernel
theorem dX11_takes_27 : decode cX11_takes 27 = .ok (.aload_n 0, 1) := by decide +kernel
theorem dX11_takes_28 : decode cX11_takes 28 = .ok (.invokevirtual 73, 3) := by decide +kernel
theorem dX11_takes_31 : decode cX11_takes 31 = .ok (.iload 5, 2) := by decide +kernel
theorem dX11_takes_33 : decode cX11_takes 33 = .ok (.invokevirtual 62, 3) := by decide +kernel
theorem dX11_takes_36 : decode cX11_takes 36 = .ok (.iconst 1, 1) := by decide +kernel
theorem dX11_takes_37 : decode cX11_takes 37 = .ok (.invokestatic 55, 3) := by decide +kernel
theorem dX11_takes_40 : decode cX11_takes 40 = .ok (.dup2, 1) := by decide +kernel
theorem dX11_takes_41 : decode cX11_takes 41 = .ok (.iaload, 1) := by decide +kernel
theorem dX11_takes_42 : decode cX11_takes 42 = .ok (.iload 4, 2) := by decide +kernel
theorem dX11_takes_44 : decode cX11_takes 44 = .ok (.isub, 1) := by decide +kernel
theorem dX11_takes_45 : decode cX11_takes 45 = .ok (.iastore, 1) := by decide +kernel
theorem dX11_takes_46 : decode cX11_takes 46 = .ok (.iinc 5 1, 3) := by decide +kernel
theorem dX11_takes_49 : decode cX11_takes 49 = .ok (.goto (-33), 3) := by decide +kernel
theorem dX11_takes_52 : decode cX11_takes 52 = .ok (.aload_n 0, 1) := by decide +kernel
theorem dX11_takes_53 : decode cX11_takes 53 = .ok (.getfield 13, 3) := by decide +kernel
theorem dX11_takes_56 : decode cX11_takes 56 = .ok (.iconst 1, 1) := by decide +kernel
theorem dX11_takes_57 : decode cX11_takes 57 = .ok (.dup2, 1) := by decide +kernel
theorem dX11_takes_58 : decode cX11_takes 58 = .ok (.iaload, 1) := by decide +kernel
theorem dX11_takes_59 : decode cX11_takes 59 = .ok (.iconst 1, 1) := by decide +kernel
theorem dX11_takes_60 : decode cX11_takes 60 = .ok (.iadd, 1) := by decide +kernel
theorem dX11_takes_61 : decode cX11_takes 61 = .ok (.iastore, 1) := by decide +kernel
theorem dX11_takes_62 : decode cX11_takes 62 = .ok (.return_, 1) := by decide +kernel
theorem lv_RX11_128 : gLv RX11 128 RX11 yX11_lays cX11_lays 7 none 5 := gLv_of (wA_t (wt7 (List.mem_of_getElem? (i := 137) (by decide +kernel))) (by decide +kernel)) (wA_t (wt7 (List.mem_of_getElem? (i := 139) (by decide +kernel))) (by decide +kernel)) (wA_of (List.mem_append_left _ (List.mem_map.mpr ⟨(⟨"YearRopeModel", "lays", "(IIIII)V"⟩, 20), wp4 (List.mem_of_getElem? (i := 10) (by decide +kernel)), rfl⟩)) (by decide +kernel)) (wA_t (wt1 (List.mem_of_getElem? (i := 12) (by decide +kernel))) (by decide +kernel)) (wA_t (wt7 (List.mem_of_getElem? (i := 140) (by decide +kernel))) (by decide +kernel)) ⟨rfl, by decide +kernel, by decide +kernel, by decide +kernel⟩
def rm_X11_takes : Room := { frames := 2, cells := 0, slots := 0, locals := 47 }
def b_X11_takes_16 (τ : gτ) (n : Nat) (x0 : Nat) (x4 : Int32) (x5 : Int32) (G : gG) : Option ((Int32 × gG) ⊕ ((gG))) :=
  if (3 : Int32) ≤ x5 then (some (.inr G))
  else ((gr G 11 1 x0).bind fun a3 =>
  (f_X11_ropes τ x0 G).bind fun v4 =>
  (f_X11_of τ x0 v4 x5 G).bind fun v5 =>
  (f_X11_yarnAt v5 (1 : Int32)).bind fun v6 =>
  gchk (gIn v6 (gn τ a3)) <|
  gchk (gIn v6 (gn τ a3)) <| gLet (gse G a3 (Int32.toNatClampNeg v6) ((ge G a3 (Int32.toNatClampNeg v6)) - x4)) fun G7 =>
  gLet (x5 + 1) fun v8 =>
  some (.inl (v8, G7)))
def l_X11_takes_16 (τ : gτ) (n : Nat) (x0 : Nat) (x4 : Int32) (x5 : Int32) (G : gG) : Option ((gG)) :=
  gIter (fun (q : Int32 × gG) => b_X11_takes_16 τ n x0 x4 q.1 q.2) n (x5, G)
def k_X11_takes_52 (τ : gτ) (n : Nat) (x0 : Nat)  (G : gG) : Option (gG) :=
  (gr G 11 1 x0).bind fun a10 =>
  gchk (gIn (1 : Int32) (gn τ a10)) <|
  gchk (gIn (1 : Int32) (gn τ a10)) <| gLet (gse G a10 (Int32.toNatClampNeg (1 : Int32)) ((ge G a10 (Int32.toNatClampNeg (1 : Int32))) + (1 : Int32))) fun G11 =>
  some G11
def f_X11_takes (τ : gτ) (n : Nat) (x0 : Nat) (x1 : Int32) (x2 : Int32) (x3 : Int32) (x4 : Int32) (G : gG) : Option (gG) :=
  (f_X11_ropes τ x0 G).bind fun v1 =>
  (f_X11_lays τ n x0 v1 x1 x2 x3 x4 G).bind fun G2 =>
  (l_X11_takes_16 τ n x0 x4 (0 : Int32) G2).bind fun q => gLet q fun G9 => 
  k_X11_takes_52 τ n x0  G9
set_option maxHeartbeats 4000000 in
set_option maxRecDepth 100000 in
theorem w_b_X11_takes_16 {X : gX} {τ : gτ} {p : Program} {l : Launch} {e : Env} {s : State} {m : MethodId} {args : Array Value} {below : List Frame} {meth : Method} {c : Code} (fx : gFx X p s m args meth c cX11_takes 6 RX11) (n : Nat) (x0 : Nat) (x4 : Int32) (x5 : Int32) (h0 : gK τ x0 11) {Q : State → Prop} {K : ((Int32 × gG) ⊕ ((gG))) → Prop} {G : gG} {H : Heap} {locs : List Loc} {ls : Array Slot} (hw : gHw X τ G H locs) (hl : lv_has ls 6 [(0, .ref x0), (4, .int x4), (5, .int x5)]) (hok : gOk (b_X11_takes_16 τ n x0 x4 x5 G) K) (hc : ∀ (y5 : Int32) (G : gG) (H : Heap) (locs : List Loc) (ls : Array Slot), gHw X τ G H locs → lv_has ls 6 [(0, .ref x0), (4, .int x4), (5, .int y5)] → K (.inl (y5, G)) → W p l e rm_X11_takes s m args below meth c H locs 0 0 Q (F0 m 16 ls [])) (hx0 : ∀ (G : gG) (H : Heap) (locs : List Loc) (ls : Array Slot), gHw X τ G H locs → lv_has ls 6 [(0, .ref x0)] → K (.inr G) → W p l e rm_X11_takes s m args below meth c H locs 0 0 Q (F0 m 52 ls [])) : W p l e rm_X11_takes s m args below meth c H locs 0 0 Q (F0 m 16 ls []) := by
  unfold b_X11_takes_16 at hok
  refine lv_iload fx.1 fx.2.1 dX11_takes_16 (lv_at hl 2 rfl) ?_
  refine lv_iconst (v := 3) fx.1 fx.2.1 dX11_takes_18 (by decide) ?_
  refine g_icmp_ge (tgt := 52) fx dX11_takes_19 (by decide) hok (fun hok => ?_) (fun hok => ?_)
  · exact hx0  G _ _ _  hw (lv_sub hl [0] rfl) (gOk_some hok)
  · refine lv_aload_n fx.1 fx.2.1 dX11_takes_22 rfl (lv_at hl 0 rfl) ?_
    refine g_getr fx hw h0 lf_RX11_13 rfl dX11_takes_23 hok (fun a3 h_a3 hok => ?_)
    refine lv_aload_n fx.1 fx.2.1 dX11_takes_26 rfl (lv_at hl 0 rfl) ?_
    refine lv_aload_n fx.1 fx.2.1 dX11_takes_27 rfl (lv_at hl 0 rfl) ?_
    obtain ⟨v4, hf, hok⟩ := gOk_bind hok
    refine g_callV0 (κ := 11) fx hw (c_X11_ropes l X τ x0 G h0 hf) lv_RX11_73 ⟨rfl, rfl⟩ rfl rfl h0 rfl hl.1 rfl ⟨Nat.le_of_ble_eq_true rfl, Nat.le_of_ble_eq_true rfl⟩ (Nat.le_of_ble_eq_true rfl) ⟨Nat.le_of_ble_eq_true rfl, Nat.le_of_ble_eq_true rfl⟩ dX11_takes_28 (fun H locs hw => ?_)
    refine lv_iload fx.1 fx.2.1 dX11_takes_31 (lv_at hl 2 rfl) ?_
    obtain ⟨v5, hf, hok⟩ := gOk_bind hok
    refine g_callV0 (κ := 11) fx hw (c_X11_of l X τ x0 v4 x5 G h0 hf) lv_RX11_62 ⟨rfl, rfl⟩ rfl rfl h0 rfl hl.1 rfl ⟨Nat.le_of_ble_eq_true rfl, Nat.le_of_ble_eq_true rfl⟩ (Nat.le_of_ble_eq_true rfl) ⟨Nat.le_of_ble_eq_true rfl, Nat.le_of_ble_eq_true rfl⟩ dX11_takes_33 (fun H locs hw => ?_)
    refine lv_iconst (v := 1) fx.1 fx.2.1 dX11_takes_36 (by decide) ?_
    obtain ⟨v6, hf, hok⟩ := gOk_bind hok
    refine g_callS0 fx hw (c_X11_yarnAt l X τ v5 (1 : Int32) G  hf) ls_RX11_55 ⟨rfl, rfl⟩ rfl hl.1 rfl ⟨Nat.le_of_ble_eq_true rfl, Nat.le_of_ble_eq_true rfl⟩ (Nat.le_of_ble_eq_true rfl) ⟨Nat.le_of_ble_eq_true rfl, Nat.le_of_ble_eq_true rfl⟩ dX11_takes_37 (fun H locs hw => ?_)
    refine lv_dup2_11 fx.1 fx.2.1 dX11_takes_40 rfl rfl ?_
    refine g_iald fx hw h_a3 dX11_takes_41 hok (fun hok => ?_)
    refine lv_iload fx.1 fx.2.1 dX11_takes_42 (lv_at hl 1 rfl) ?_
    refine lv_isub fx.1 fx.2.1 dX11_takes_44 ?_
    refine g_iast fx hw h_a3 dX11_takes_45 hok (fun G7 H locs hw hok => ?_)
    obtain ⟨v8, e_v8, hok⟩ := gOk_let hok
    refine lv_iinc (v := v8) (lv' := [(5, .int v8), (0, .ref x0), (4, .int x4)]) fx.1 fx.2.1 dX11_takes_46 hl (k := 2) rfl (by rw [e_v8]; rfl) (by decide) rfl (fun ls hl => ?_)
    refine lv_goto (tgt := 16) fx.1 fx.2.1 dX11_takes_49 (by decide) ?_
    exact hc v8 G7 _ _ _  hw (lv_sub hl [1, 2, 0] rfl) (gOk_some hok)
theorem w_l_X11_takes_16 {X : gX} {τ : gτ} {p : Program} {l : Launch} {e : Env} {s : State} {m : MethodId} {args : Array Value} {below : List Frame} {meth : Method} {c : Code} (fx : gFx X p s m args meth c cX11_takes 6 RX11) (n : Nat) (x0 : Nat) (x4 : Int32) (h0 : gK τ x0 11) {Q : State → Prop} {K : ((gG)) → Prop} (hx0 : ∀ (G : gG) (H : Heap) (locs : List Loc) (ls : Array Slot), gHw X τ G H locs → lv_has ls 6 [(0, .ref x0)] → K G → W p l e rm_X11_takes s m args below meth c H locs 0 0 Q (F0 m 52 ls [])) : ∀ (k : Nat) (x5 : Int32) (G : gG) (H : Heap) (locs : List Loc) (ls : Array Slot), gHw X τ G H locs → lv_has ls 6 [(0, .ref x0), (4, .int x4), (5, .int x5)] → gOk (gIter (fun (q : Int32 × gG) => b_X11_takes_16 τ n x0 x4 q.1 q.2) k (x5, G)) K → W p l e rm_X11_takes s m args below meth c H locs 0 0 Q (F0 m 16 ls []) := by
  intro k
  induction k with
  | zero =>
    intro x5 G H locs ls hw hl hok
    exact gOk_iter0 hok
  | succ k hc =>
    intro x5 G H locs ls hw hl hok
    exact w_b_X11_takes_16 fx n x0 x4 x5 h0 hw hl (gOk_iter hok) hc hx0
set_option maxHeartbeats 4000000 in
set_option maxRecDepth 100000 in
theorem w_X11_takes_52 {X : gX} {τ : gτ} {p : Program} {l : Launch} {e : Env} {s : State} {m : MethodId} {args : Array Value} {below : List Frame} {meth : Method} {c : Code} (fx : gFx X p s m args meth c cX11_takes 6 RX11) (n : Nat) (x0 : Nat)  (h0 : gK τ x0 11)  (hr : meth.sig.returnType = none) {G' : gG} {G : gG} {H : Heap} {locs : List Loc} {ls : Array Slot} (hw : gHw X τ G H locs) (hl : lv_has ls 6 [(0, .ref x0)]) (hok : gOk (k_X11_takes_52 τ n x0  G) (fun q => q = G'))  : W p l e rm_X11_takes s m args below meth c H locs 0 0 (MQ below (gQ X τ none G') args s 0 0 (gFree X)) (F0 m 52 ls []) := by
  unfold k_X11_takes_52 at hok
  refine lv_aload_n fx.1 fx.2.1 dX11_takes_52 rfl (lv_at hl 0 rfl) ?_
  refine g_getr fx hw h0 lf_RX11_13 rfl dX11_takes_53 hok (fun a10 h_a10 hok => ?_)
  refine lv_iconst (v := 1) fx.1 fx.2.1 dX11_takes_56 (by decide) ?_
  refine lv_dup2_11 fx.1 fx.2.1 dX11_takes_57 rfl rfl ?_
  refine g_iald fx hw h_a10 dX11_takes_58 hok (fun hok => ?_)
  refine lv_iconst (v := 1) fx.1 fx.2.1 dX11_takes_59 (by decide) ?_
  refine lv_iadd fx.1 fx.2.1 dX11_takes_60 ?_
  refine g_iast fx hw h_a10 dX11_takes_61 hok (fun G11 H locs hw hok => ?_)
  cases gOk_some hok
  exact g_vret fx hw hr dX11_takes_62
set_option maxHeartbeats 4000000 in
set_option maxRecDepth 100000 in
theorem c_X11_takes (l : Launch) (X : gX) (τ : gτ) (n : Nat) (x0 : Nat) (x1 : Int32) (x2 : Int32) (x3 : Int32) (x4 : Int32) (G : gG) (h0 : gK τ x0 11) {G' : gG} (h : f_X11_takes τ n x0 x1 x2 x3 x4 G = some G') : gM l X τ yX11_takes cX11_takes 6 none rm_X11_takes [.ref x0, .int x1, .int x2, .int x3, .int x4] G none G' := by
  refine g_body (by decide +kernel) (Nat.le_of_ble_eq_true rfl) ?_
  intro p e s m args below meth c ls fx hr hw hl
  have fx : gFx X p s m args meth c cX11_takes 6 RX11 := fx
  have hl : lv_has ls 6 [(0, .ref x0), (1, .int x1), (2, .int x2), (3, .int x3), (4, .int x4)] := hl
  have hok : gOk (f_X11_takes τ n x0 x1 x2 x3 x4 G) (fun q => q = G') := ⟨_, h, rfl⟩
  unfold f_X11_takes at hok
  show W p l e rm_X11_takes s m args below meth c s.heap [] 0 0 (MQ below (gQ X τ none G') args s 0 0 (gFree X)) _
  refine lv_aload_n fx.1 fx.2.1 dX11_takes_0 rfl (lv_at hl 0 rfl) ?_
  refine lv_aload_n fx.1 fx.2.1 dX11_takes_1 rfl (lv_at hl 0 rfl) ?_
  obtain ⟨v1, hf, hok⟩ := gOk_bind hok
  refine g_callV0 (κ := 11) fx hw (c_X11_ropes l X τ x0 G h0 hf) lv_RX11_73 ⟨rfl, rfl⟩ rfl rfl h0 rfl hl.1 rfl ⟨Nat.le_of_ble_eq_true rfl, Nat.le_of_ble_eq_true rfl⟩ (Nat.le_of_ble_eq_true rfl) ⟨Nat.le_of_ble_eq_true rfl, Nat.le_of_ble_eq_true rfl⟩ dX11_takes_2 (fun H locs hw => ?_)
  refine lv_iload_n fx.1 fx.2.1 dX11_takes_5 rfl (lv_at hl 1 rfl) ?_
  refine lv_iload_n fx.1 fx.2.1 dX11_takes_6 rfl (lv_at hl 2 rfl) ?_
  refine lv_iload_n fx.1 fx.2.1 dX11_takes_7 rfl (lv_at hl 3 rfl) ?_
  refine lv_iload fx.1 fx.2.1 dX11_takes_8 (lv_at hl 4 rfl) ?_
  obtain ⟨G2, hf, hok⟩ := gOk_bind hok
  refine g_callV0 (κ := 11) fx hw (c_X11_lays l X τ n x0 v1 x1 x2 x3 x4 G h0 hf) lv_RX11_128 ⟨rfl, rfl⟩ rfl rfl h0 rfl hl.1 rfl ⟨Nat.le_of_ble_eq_true rfl, Nat.le_of_ble_eq_true rfl⟩ (Nat.le_of_ble_eq_true rfl) ⟨Nat.le_of_ble_eq_true rfl, Nat.le_of_ble_eq_true rfl⟩ dX11_takes_10 (fun H locs hw => ?_)
  refine lv_iconst (v := 0) fx.1 fx.2.1 dX11_takes_13 (by decide) ?_
  refine lv_istore (lv' := [(5, .int (0 : Int32)), (0, .ref x0), (1, .int x1), (2, .int x2), (3, .int x3), (4, .int x4)]) fx.1 fx.2.1 dX11_takes_14 hl (by decide) rfl (fun ls hl => ?_)
  refine w_l_X11_takes_16 fx n x0 x4 h0 ?_ n (0 : Int32) G2 _ _ _  hw (lv_sub hl [1, 5, 0] rfl) (gOk_bindK hok)
  intro G9 H locs ls hw hl hok
  have hok : gOk (ρ := gG) (k_X11_takes_52 τ n x0  G9) _ := hok
  exact w_X11_takes_52 fx n x0  h0  hr hw (lv_sub hl [0] rfl) hok
theorem dX11_readRope_0 : decode cX11_readRope 0 = .ok (.aload_n 0, 1) := by decide +kernel
theorem dX11_readRope_1 : decode cX11_readRope 1 = .ok (.invokevirtual 73, 3) := by decide +kernel
theorem dX11_readRope_4 : decode cX11_readRope 4 = .ok (.bipush 8, 2) := by decide +kernel
theorem dX11_readRope_6 : decode cX11_readRope 6 = .ok (.if_icmp .ne 5, 3) := by decide +kernel
theorem dX11_readRope_9 : decode cX11_readRope 9 = .ok (.iconst 0, 1) := by decide +kernel
theorem dX11_readRope_10 : decode cX11_readRope 10 = .ok (.ireturn, 1) := by decide +kernel
theorem dX11_readRope_11 : decode cX11_readRope 11 = .ok (.aload_n 0, 1) := by decide +kernel
theorem dX11_readRope_12 : decode cX11_readRope 12 = .ok (.iconst 0, 1) := by decide +kernel
theorem dX11_readRope_13 : decode cX11_readRope 13 = .ok (.aload_n 0, 1) := by decide +kernel
theorem dX11_readRope_14 : decode cX11_readRope 14 = .ok (.invokevirtual 65, 3) := by decide +kernel
theorem dX11_readRope_17 : decode cX11_readRope 17 = .ok (.iconst 1, 1) := by decide +kernel
theorem dX11_readRope_18 : decode cX11_readRope 18 = .ok (.isub, 1) := by decide +kernel
theorem dX11_readRope_19 : decode cX11_readRope 19 = .ok (.invokevirtual 115, 3) := by decide +kernel
theorem dX11_readRope_22 : decode cX11_readRope 22 = .ok (.istore_n 1, 1) := by decide +kernel
theorem dX11_readRope_23 : decode cX11_readRope 23 = .ok (.iload_n 1, 1) := by decide +kernel
theorem dX11_readRope_24 : decode cX11_readRope 24 = .ok (.ifCond .ge 7, 3) := by decide +kernel
theorem dX11_readRope_27 : decode cX11_readRope 27 = .ok (.iconst (-1), 1) := by decide +kernel
theorem dX11_readRope_28 : decode cX11_readRope 28 = .ok (.goto 14, 3) := by decide +kernel
theorem dX11_readRope_31 : decode cX11_readRope 31 = .ok (.aload_n 0, 1) := by decide +kernel
theorem dX11_readRope_32 : decode cX11_readRope 32 = .ok (.iconst 0, 1) := by decide +kernel
theorem dX11_readRope_33 : decode cX11_readRope 33 = .ok (.aload_n 0, 1) := by decide +kernel
theorem dX11_readRope_34 : decode cX11_readRope 34 = .ok (.invokevirtual 65, 3) := by decide +kernel
theorem dX11_readRope_37 : decode cX11_readRope 37 = .ok (.iconst 1, 1) := by decide +kernel
theorem dX11_readRope_38 : decode cX11_readRope 38 = .ok (.isub, 1) := by decide +kernel
theorem dX11_readRope_39 : decode cX11_readRope 39 = .ok (.invokevirtual 115, 3) := by decide +kernel
theorem dX11_readRope_42 : decode cX11_readRope 42 = .ok (.istore_n 2, 1) := by decide +kernel
theorem dX11_readRope_43 : decode cX11_readRope 43 = .ok (.iload_n 2, 1) := by decide +kernel
theorem dX11_readRope_44 : decode cX11_readRope 44 = .ok (.ifCond .lt 8, 3) := by decide +kernel
theorem dX11_readRope_47 : decode cX11_readRope 47 = .ok (.iload_n 2, 1) := by decide +kernel
theorem dX11_readRope_48 : decode cX11_readRope 48 = .ok (.iload_n 1, 1) := by decide +kernel
theorem dX11_readRope_49 : decode cX11_readRope 49 = .ok (.if_icmp .ne 5, 3) := by decide +kernel
theorem dX11_readRope_52 : decode cX11_readRope 52 = .ok (.iconst 0, 1) := by decide +kernel
theorem dX11_readRope_53 : decode cX11_readRope 53 = .ok (.ireturn, 1) := by decide +kernel
theorem dX11_readRope_54 : decode cX11_readRope 54 = .ok (.aload_n 0, 1) := by decide +kernel
theorem dX11_readRope_55 : decode cX11_readRope 55 = .ok (.iconst 0, 1) := by decide +kernel
theorem dX11_readRope_56 : decode cX11_readRope 56 = .ok (.aload_n 0, 1) := by decide +kernel
theorem dX11_readRope_57 : decode cX11_readRope 57 = .ok (.invokevirtual 65, 3) := by decide +kernel
theorem dX11_readRope_60 : decode cX11_readRope 60 = .ok (.iconst 1, 1) := by decide +kernel
theorem dX11_readRope_61 : decode cX11_readRope 61 = .ok (.isub, 1) := by decide +kernel
theorem dX11_readRope_62 : decode cX11_readRope 62 = .ok (.invokevirtual 115, 3) := by decide +kernel
theorem dX11_readRope_65 : decode cX11_readRope 65 = .ok (.istore_n 3, 1) := by decide +kernel
theorem dX11_readRope_66 : decode cX11_readRope 66 = .ok (.iload_n 3, 1) := by decide +kernel
theorem dX11_readRope_67 : decode cX11_readRope 67 = .ok (.ifCond .lt 13, 3) := by decide +kernel
theorem dX11_readRope_70 : decode cX11_readRope 70 = .ok (.iload_n 3, 1) := by decide +kernel
theorem dX11_readRope_71 : decode cX11_readRope 71 = .ok (.iload_n 1, 1) := by decide +kernel
theorem dX11_readRope_72 : decode cX11_readRope 72 = .ok (.if_icmp .eq 8, 3) := by decide +kernel
theorem dX11_readRope_75 : decode cX11_readRope 75 = .ok (.iload_n 3, 1) := by decide +kernel
theorem dX11_readRope_76 : decode cX11_readRope 76 = .ok (.iload_n 2, 1) := by decide +kernel
theorem dX11_readRope_77 : decode cX11_readRope 77 = .ok (.if_icmp .ne 5, 3) := by decide +kernel
theorem dX11_readRope_80 : decode cX11_readRope 80 = .ok (.iconst 0, 1) := by decide +kernel
theorem dX11_readRope_81 : decode cX11_readRope 81 = .ok (.ireturn, 1) := by decide +kernel
theorem dX11_readRope_82 : decode cX11_readRope 82 = .ok (.aload_n 0, 1) := by decide +kernel
theorem dX11_readRope_83 : decode cX11_readRope 83 = .ok (.iload_n 1, 1) := by decide +kernel
theorem dX11_readRope_84 : decode cX11_readRope 84 = .ok (.iconst 1, 1) := by decide +kernel
theorem dX11_readRope_85 : decode cX11_readRope 85 = .ok (.invokevirtual 132, 3) := by decide +kernel
theorem dX11_readRope_88 : decode cX11_readRope 88 = .ok (.aload_n 0, 1) := by decide +kernel
theorem dX11_readRope_89 : decode cX11_readRope 89 = .ok (.iload_n 2, 1) := by decide +kernel
theorem dX11_readRope_90 : decode cX11_readRope 90 = .ok (.iconst 1, 1) := by decide +kernel
theorem dX11_readRope_91 : decode cX11_readRope 91 = .ok (.invokevirtual 132, 3) := by decide +kernel
theorem dX11_readRope_94 : decode cX11_readRope 94 = .ok (.aload_n 0, 1) := by decide +kernel
theorem dX11_readRope_95 : decode cX11_readRope 95 = .ok (.iload_n 3, 1) := by decide +kernel
theorem dX11_readRope_96 : decode cX11_readRope 96 = .ok (.iconst 1, 1) := by decide +kernel
theorem dX11_readRope_97 : decode cX11_readRope 97 = .ok (.invokevirtual 132, 3) := by decide +kernel
theorem dX11_readRope_100 : decode cX11_readRope 100 = .ok (.invokestatic 135, 3) := by decide +kernel
theorem dX11_readRope_103 : decode cX11_readRope 103 = .ok (.invokestatic 135, 3) := by decide +kernel
theorem dX11_readRope_106 : decode cX11_readRope 106 = .ok (.istore 4, 2) := by decide +kernel
theorem dX11_readRope_108 : decode cX11_readRope 108 = .ok (.aload_n 0, 1) := by decide +kernel
theorem dX11_readRope_109 : decode cX11_readRope 109 = .ok (.ldc 118, 2) := by decide +kernel
theorem dX11_readRope_111 : decode cX11_readRope 111 = .ok (.iconst 1, 1) := by decide +kernel
theorem dX11_readRope_112 : decode cX11_readRope 112 = .ok (.iload 4, 2) := by decide +kernel
theorem dX11_readRope_114 : decode cX11_readRope 114 = .ok (.invokevirtual 120, 3) := by decide +kernel
theorem dX11_readRope_117 : decode cX11_readRope 117 = .ok (.istore 5, 2) := by decide +kernel
theorem dX11_readRope_119 : decode cX11_readRope 119 = .ok (.iload 5, 2) := by decide +kernel
theorem dX11_readRope_121 : decode cX11_readRope 121 = .ok (.ifCond .ge 5, 3) := by decide +kernel
theorem dX11_readRope_124 : decode cX11_readRope 124 = .ok (.iconst 0, 1) := by decide +kernel
theorem dX11_readRope_125 : decode cX11_readRope 125 = .ok (.ireturn, 1) := by decide +kernel
theorem dX11_readRope_126 : decode cX11_readRope 126 = .ok (.aload_n 0, 1) := by decide +kernel
theorem dX11_readRope_127 : decode cX11_readRope 127 = .ok (.iload_n 1, 1) := by decide +kernel
theorem dX11_readRope_128 : decode cX11_readRope 128 = .ok (.iload_n 2, 1) := by decide +kernel
theorem dX11_readRope_129 : decode cX11_readRope 129 = .ok (.iload_n 3, 1) := by decide +kernel
theorem dX11_readRope_130 : decode cX11_readRope 130 = .ok (.iload 5, 2) := by decide +kernel
theorem dX11_readRope_132 : decode cX11_readRope 132 = .ok (.invokevirtual 140, 3) := by decide +kernel
theorem dX11_readRope_135 : decode cX11_readRope 135 = .ok (.iconst 1, 1) := by decide +kernel
theorem dX11_readRope_136 : decode cX11_readRope 136 = .ok (.ireturn, 1) := by decide +kernel
theorem lv_RX11_132 : gLv RX11 132 RX11 yX11_ofYarn cX11_ofYarn 3 (some .int) 2 := gLv_of (wA_t (wt7 (List.mem_of_getElem? (i := 128) (by decide +kernel))) (by decide +kernel)) (wA_t (wt7 (List.mem_of_getElem? (i := 130) (by decide +kernel))) (by decide +kernel)) (wA_of (List.mem_append_left _ (List.mem_map.mpr ⟨(⟨"YearRopeModel", "ofYarn", "(II)I"⟩, 20), wp4 (List.mem_of_getElem? (i := 8) (by decide +kernel)), rfl⟩)) (by decide +kernel)) (wA_t (wt1 (List.mem_of_getElem? (i := 12) (by decide +kernel))) (by decide +kernel)) (wA_t (wt7 (List.mem_of_getElem? (i := 131) (by decide +kernel))) (by decide +kernel)) ⟨rfl, by decide +kernel, by decide +kernel, by decide +kernel⟩
theorem lm_RX11_135 : Cond.methodLink RX11 135 Lib.Math.min.name ∈ wA := wA_t (wt7 (List.mem_of_getElem? (i := 132) (by decide +kernel))) (by decide +kernel)
theorem lv_RX11_140 : gLv RX11 140 RX11 yX11_takes cX11_takes 6 none 4 := gLv_of (wA_t (wt7 (List.mem_of_getElem? (i := 133) (by decide +kernel))) (by decide +kernel)) (wA_t (wt7 (List.mem_of_getElem? (i := 135) (by decide +kernel))) (by decide +kernel)) (wA_of (List.mem_append_left _ (List.mem_map.mpr ⟨(⟨"YearRopeModel", "takes", "(IIII)V"⟩, 20), wp4 (List.mem_of_getElem? (i := 9) (by decide +kernel)), rfl⟩)) (by decide +kernel)) (wA_t (wt1 (List.mem_of_getElem? (i := 12) (by decide +kernel))) (by decide +kernel)) (wA_t (wt7 (List.mem_of_getElem? (i := 136) (by decide +kernel))) (by decide +kernel)) ⟨rfl, by decide +kernel, by decide +kernel, by decide +kernel⟩
def rm_X11_readRope : Room := { frames := 6, cells := 0, slots := 0, locals := 206 }
def k_X11_readRope_42 (τ : gτ) (n : Nat) (x0 : Nat) (x1 : Int32) (s0 : Int32) (G : gG) : Option (Int32 × gG) :=
  if s0 < 0 then (some (0, G))
  else (if s0 = x1 then (some (0, G))
  else ((f_X11_yarns τ x0 G).bind fun v8 =>
  gBind2 (f_X11_number τ n x0 (0 : Int32) (v8 - (1 : Int32)) G) fun v9 G10 =>
  if v9 < 0 then (some (0, G10))
  else (if v9 = x1 then (some (0, G10))
  else (if v9 = s0 then (some (0, G10))
  else ((f_X11_ofYarn τ x0 x1 (1 : Int32) G10).bind fun v11 =>
  (f_X11_ofYarn τ x0 s0 (1 : Int32) G10).bind fun v12 =>
  (f_X11_ofYarn τ x0 v9 (1 : Int32) G10).bind fun v13 =>
  gLet (gmin v11 (gmin v12 v13)) fun v14 =>
  gBind2 (f_X11_after τ n x0 s_long (1 : Int32) v14 G10) fun v16 G17 =>
  if 0 ≤ v16 then ((f_X11_takes τ n x0 x1 s0 v9 v16 G17).bind fun G18 =>
  some (1, G18))
  else (some (0, G17)))))))
def f_X11_readRope (τ : gτ) (n : Nat) (x0 : Nat) (G : gG) : Option (Int32 × gG) :=
  (f_X11_ropes τ x0 G).bind fun v1 =>
  if v1 = (8 : Int32) then (some (0, G))
  else ((f_X11_yarns τ x0 G).bind fun v2 =>
  gBind2 (f_X11_number τ n x0 (0 : Int32) (v2 - (1 : Int32)) G) fun v3 G4 =>
  if 0 ≤ v3 then ((f_X11_yarns τ x0 G4).bind fun v5 =>
  gBind2 (f_X11_number τ n x0 (0 : Int32) (v5 - (1 : Int32)) G4) fun v6 G7 =>
  k_X11_readRope_42 τ n x0 v3 v6 G7)
  else (k_X11_readRope_42 τ n x0 v3 (-1 : Int32) G4))
set_option maxHeartbeats 4000000 in
set_option maxRecDepth 100000 in
theorem w_X11_readRope_42 {X : gX} {τ : gτ} {p : Program} {l : Launch} {e : Env} {s : State} {m : MethodId} {args : Array Value} {below : List Frame} {meth : Method} {c : Code} (fx : gFx X p s m args meth c cX11_readRope 6 RX11) (hS : gS0 l X) (n : Nat) (x0 : Nat) (x1 : Int32) (s0 : Int32) (h0 : gK τ x0 11)  (hr : meth.sig.returnType = (some .boolean)) {r : Int32} {G' : gG} {G : gG} {H : Heap} {locs : List Loc} {ls : Array Slot} (hw : gHw X τ G H locs) (hl : lv_has ls 6 [(0, .ref x0), (1, .int x1)]) (hok : gOk (k_X11_readRope_42 τ n x0 x1 s0 G) (fun q => q = (r, G')))  : W p l e rm_X11_readRope s m args below meth c H locs 0 0 (MQ below (gQ X τ (some (.int r)) G') args s 0 0 (gFree X)) (F0 m 42 ls [.int s0]) := by
  unfold k_X11_readRope_42 at hok
  refine lv_istore_n (lv' := [(2, .int s0), (0, .ref x0), (1, .int x1)]) fx.1 fx.2.1 dX11_readRope_42 rfl hl (by decide) rfl (fun ls hl => ?_)
  refine lv_iload_n fx.1 fx.2.1 dX11_readRope_43 rfl (lv_at hl 0 rfl) ?_
  refine g_if_lt (tgt := 52) fx dX11_readRope_44 (by decide) hok (fun hok => ?_) (fun hok => ?_)
  · refine lv_iconst (v := 0) fx.1 fx.2.1 dX11_readRope_52 (by decide) ?_
    cases gOk_some hok
    exact g_zret fx hw hr (by decide) dX11_readRope_53
  · refine lv_iload_n fx.1 fx.2.1 dX11_readRope_47 rfl (lv_at hl 0 rfl) ?_
    refine lv_iload_n fx.1 fx.2.1 dX11_readRope_48 rfl (lv_at hl 2 rfl) ?_
    refine g_icmp_ne (tgt := 54) fx dX11_readRope_49 (by decide) hok (fun hok => ?_) (fun hok => ?_)
    · refine lv_iconst (v := 0) fx.1 fx.2.1 dX11_readRope_52 (by decide) ?_
      cases gOk_some hok
      exact g_zret fx hw hr (by decide) dX11_readRope_53
    · refine lv_aload_n fx.1 fx.2.1 dX11_readRope_54 rfl (lv_at hl 1 rfl) ?_
      refine lv_iconst (v := 0) fx.1 fx.2.1 dX11_readRope_55 (by decide) ?_
      refine lv_aload_n fx.1 fx.2.1 dX11_readRope_56 rfl (lv_at hl 1 rfl) ?_
      obtain ⟨v8, hf, hok⟩ := gOk_bind hok
      refine g_callV0 (κ := 11) fx hw (c_X11_yarns l X τ x0 G h0 hf) lv_RX11_65 ⟨rfl, rfl⟩ rfl rfl h0 rfl hl.1 rfl ⟨Nat.le_of_ble_eq_true rfl, Nat.le_of_ble_eq_true rfl⟩ (Nat.le_of_ble_eq_true rfl) ⟨Nat.le_of_ble_eq_true rfl, Nat.le_of_ble_eq_true rfl⟩ dX11_readRope_57 (fun H locs hw => ?_)
      refine lv_iconst (v := 1) fx.1 fx.2.1 dX11_readRope_60 (by decide) ?_
      refine lv_isub fx.1 fx.2.1 dX11_readRope_61 ?_
      obtain ⟨v9, G10, hf, hok⟩ := gOk_bind2 hok
      refine g_callV0 (κ := 11) fx hw (c_X11_number l X τ n x0 (0 : Int32) (v8 - (1 : Int32)) G h0 hf) lv_RX11_115 ⟨rfl, rfl⟩ rfl rfl h0 rfl hl.1 rfl ⟨Nat.le_of_ble_eq_true rfl, Nat.le_of_ble_eq_true rfl⟩ (Nat.le_of_ble_eq_true rfl) ⟨Nat.le_of_ble_eq_true rfl, Nat.le_of_ble_eq_true rfl⟩ dX11_readRope_62 (fun H locs hw => ?_)
      refine lv_istore_n (lv' := [(3, .int v9), (2, .int s0), (0, .ref x0), (1, .int x1)]) fx.1 fx.2.1 dX11_readRope_65 rfl hl (by decide) rfl (fun ls hl => ?_)
      refine lv_iload_n fx.1 fx.2.1 dX11_readRope_66 rfl (lv_at hl 0 rfl) ?_
      refine g_if_lt (tgt := 80) fx dX11_readRope_67 (by decide) hok (fun hok => ?_) (fun hok => ?_)
      · refine lv_iconst (v := 0) fx.1 fx.2.1 dX11_readRope_80 (by decide) ?_
        cases gOk_some hok
        exact g_zret fx hw hr (by decide) dX11_readRope_81
      · refine lv_iload_n fx.1 fx.2.1 dX11_readRope_70 rfl (lv_at hl 0 rfl) ?_
        refine lv_iload_n fx.1 fx.2.1 dX11_readRope_71 rfl (lv_at hl 3 rfl) ?_
        refine g_icmp_eq (tgt := 80) fx dX11_readRope_72 (by decide) hok (fun hok => ?_) (fun hok => ?_)
        · refine lv_iconst (v := 0) fx.1 fx.2.1 dX11_readRope_80 (by decide) ?_
          cases gOk_some hok
          exact g_zret fx hw hr (by decide) dX11_readRope_81
        · refine lv_iload_n fx.1 fx.2.1 dX11_readRope_75 rfl (lv_at hl 0 rfl) ?_
          refine lv_iload_n fx.1 fx.2.1 dX11_readRope_76 rfl (lv_at hl 1 rfl) ?_
          refine g_icmp_ne (tgt := 82) fx dX11_readRope_77 (by decide) hok (fun hok => ?_) (fun hok => ?_)
          · refine lv_iconst (v := 0) fx.1 fx.2.1 dX11_readRope_80 (by decide) ?_
            cases gOk_some hok
            exact g_zret fx hw hr (by decide) dX11_readRope_81
          · refine lv_aload_n fx.1 fx.2.1 dX11_readRope_82 rfl (lv_at hl 2 rfl) ?_
            refine lv_iload_n fx.1 fx.2.1 dX11_readRope_83 rfl (lv_at hl 3 rfl) ?_
            refine lv_iconst (v := 1) fx.1 fx.2.1 dX11_readRope_84 (by decide) ?_
            obtain ⟨v11, hf, hok⟩ := gOk_bind hok
            refine g_callV0 (κ := 11) fx hw (c_X11_ofYarn l X τ x0 x1 (1 : Int32) G10 h0 hf) lv_RX11_132 ⟨rfl, rfl⟩ rfl rfl h0 rfl hl.1 rfl ⟨Nat.le_of_ble_eq_true rfl, Nat.le_of_ble_eq_true rfl⟩ (Nat.le_of_ble_eq_true rfl) ⟨Nat.le_of_ble_eq_true rfl, Nat.le_of_ble_eq_true rfl⟩ dX11_readRope_85 (fun H locs hw => ?_)
            refine lv_aload_n fx.1 fx.2.1 dX11_readRope_88 rfl (lv_at hl 2 rfl) ?_
            refine lv_iload_n fx.1 fx.2.1 dX11_readRope_89 rfl (lv_at hl 1 rfl) ?_
            refine lv_iconst (v := 1) fx.1 fx.2.1 dX11_readRope_90 (by decide) ?_
            obtain ⟨v12, hf, hok⟩ := gOk_bind hok
            refine g_callV0 (κ := 11) fx hw (c_X11_ofYarn l X τ x0 s0 (1 : Int32) G10 h0 hf) lv_RX11_132 ⟨rfl, rfl⟩ rfl rfl h0 rfl hl.1 rfl ⟨Nat.le_of_ble_eq_true rfl, Nat.le_of_ble_eq_true rfl⟩ (Nat.le_of_ble_eq_true rfl) ⟨Nat.le_of_ble_eq_true rfl, Nat.le_of_ble_eq_true rfl⟩ dX11_readRope_91 (fun H locs hw => ?_)
            refine lv_aload_n fx.1 fx.2.1 dX11_readRope_94 rfl (lv_at hl 2 rfl) ?_
            refine lv_iload_n fx.1 fx.2.1 dX11_readRope_95 rfl (lv_at hl 0 rfl) ?_
            refine lv_iconst (v := 1) fx.1 fx.2.1 dX11_readRope_96 (by decide) ?_
            obtain ⟨v13, hf, hok⟩ := gOk_bind hok
            refine g_callV0 (κ := 11) fx hw (c_X11_ofYarn l X τ x0 v9 (1 : Int32) G10 h0 hf) lv_RX11_132 ⟨rfl, rfl⟩ rfl rfl h0 rfl hl.1 rfl ⟨Nat.le_of_ble_eq_true rfl, Nat.le_of_ble_eq_true rfl⟩ (Nat.le_of_ble_eq_true rfl) ⟨Nat.le_of_ble_eq_true rfl, Nat.le_of_ble_eq_true rfl⟩ dX11_readRope_97 (fun H locs hw => ?_)
            refine g_mmin fx hl.1 lm_RX11_135 lmst_min lm_init lmco_min ⟨Nat.le_of_ble_eq_true rfl, Nat.le_of_ble_eq_true rfl, Nat.le_of_ble_eq_true rfl, Nat.le_of_ble_eq_true rfl⟩ dX11_readRope_100 ?_
            refine g_mmin fx hl.1 lm_RX11_135 lmst_min lm_init lmco_min ⟨Nat.le_of_ble_eq_true rfl, Nat.le_of_ble_eq_true rfl, Nat.le_of_ble_eq_true rfl, Nat.le_of_ble_eq_true rfl⟩ dX11_readRope_103 ?_
            refine g_leti hok (fun v14 hok => ?_)
            refine lv_istore (lv' := [(4, .int v14), (3, .int v9), (2, .int s0), (0, .ref x0), (1, .int x1)]) fx.1 fx.2.1 dX11_readRope_106 hl (by decide) rfl (fun ls hl => ?_)
            refine lv_aload_n fx.1 fx.2.1 dX11_readRope_108 rfl (lv_at hl 3 rfl) ?_
            refine g_ldcS fx hS gt_RX11_118 dX11_readRope_109 (fun w15 h_w15 => ?_)
            refine lv_iconst (v := 1) fx.1 fx.2.1 dX11_readRope_111 (by decide) ?_
            refine lv_iload fx.1 fx.2.1 dX11_readRope_112 (lv_at hl 0 rfl) ?_
            obtain ⟨v16, G17, hf, hok⟩ := gOk_bind2 hok
            refine g_callV0 (κ := 11) fx hw (c_X11_after l X τ n hS x0 s_long (1 : Int32) v14 G10 h0 h_w15 hf) lv_RX11_120 ⟨rfl, rfl⟩ rfl rfl h0 rfl hl.1 rfl ⟨Nat.le_of_ble_eq_true rfl, Nat.le_of_ble_eq_true rfl⟩ (Nat.le_of_ble_eq_true rfl) ⟨Nat.le_of_ble_eq_true rfl, Nat.le_of_ble_eq_true rfl⟩ dX11_readRope_114 (fun H locs hw => ?_)
            refine lv_istore (lv' := [(5, .int v16), (4, .int v14), (3, .int v9), (2, .int s0), (0, .ref x0), (1, .int x1)]) fx.1 fx.2.1 dX11_readRope_117 hl (by decide) rfl (fun ls hl => ?_)
            refine lv_iload fx.1 fx.2.1 dX11_readRope_119 (lv_at hl 0 rfl) ?_
            refine g_if_ge (tgt := 126) fx dX11_readRope_121 (by decide) hok (fun hok => ?_) (fun hok => ?_)
            · refine lv_aload_n fx.1 fx.2.1 dX11_readRope_126 rfl (lv_at hl 4 rfl) ?_
              refine lv_iload_n fx.1 fx.2.1 dX11_readRope_127 rfl (lv_at hl 5 rfl) ?_
              refine lv_iload_n fx.1 fx.2.1 dX11_readRope_128 rfl (lv_at hl 3 rfl) ?_
              refine lv_iload_n fx.1 fx.2.1 dX11_readRope_129 rfl (lv_at hl 2 rfl) ?_
              refine lv_iload fx.1 fx.2.1 dX11_readRope_130 (lv_at hl 0 rfl) ?_
              obtain ⟨G18, hf, hok⟩ := gOk_bind hok
              refine g_callV0 (κ := 11) fx hw (c_X11_takes l X τ n x0 x1 s0 v9 v16 G17 h0 hf) lv_RX11_140 ⟨rfl, rfl⟩ rfl rfl h0 rfl hl.1 rfl ⟨Nat.le_of_ble_eq_true rfl, Nat.le_of_ble_eq_true rfl⟩ (Nat.le_of_ble_eq_true rfl) ⟨Nat.le_of_ble_eq_true rfl, Nat.le_of_ble_eq_true rfl⟩ dX11_readRope_132 (fun H locs hw => ?_)
              refine lv_iconst (v := 1) fx.1 fx.2.1 dX11_readRope_135 (by decide) ?_
              cases gOk_some hok
              exact g_zret fx hw hr (by decide) dX11_readRope_136
            · refine lv_iconst (v := 0) fx.1 fx.2.1 dX11_readRope_124 (by decide) ?_
              cases gOk_some hok
              exact g_zret fx hw hr (by decide) dX11_readRope_125
set_option maxHeartbeats 4000000 in
set_option maxRecDepth 100000 in
theorem c_X11_readRope (l : Launch) (X : gX) (τ : gτ) (n : Nat) (hS : gS0 l X) (x0 : Nat) (G : gG) (h0 : gK τ x0 11) {r : Int32} {G' : gG} (h : f_X11_readRope τ n x0 G = some (r, G')) : gM l X τ yX11_readRope cX11_readRope 6 (some .boolean) rm_X11_readRope [.ref x0] G (some (.int r)) G' := by
  refine g_body (by decide +kernel) (Nat.le_of_ble_eq_true rfl) ?_
  intro p e s m args below meth c ls fx hr hw hl
  have fx : gFx X p s m args meth c cX11_readRope 6 RX11 := fx
  have hl : lv_has ls 6 [(0, .ref x0)] := hl
  have hok : gOk (f_X11_readRope τ n x0 G) (fun q => q = (r, G')) := ⟨_, h, rfl⟩
  unfold f_X11_readRope at hok
  show W p l e rm_X11_readRope s m args below meth c s.heap [] 0 0 (MQ below (gQ X τ (some (.int r)) G') args s 0 0 (gFree X)) _
  refine lv_aload_n fx.1 fx.2.1 dX11_readRope_0 rfl (lv_at hl 0 rfl) ?_
  obtain ⟨v1, hf, hok⟩ := gOk_bind hok
  refine g_callV0 (κ := 11) fx hw (c_X11_ropes l X τ x0 G h0 hf) lv_RX11_73 ⟨rfl, rfl⟩ rfl rfl h0 rfl hl.1 rfl ⟨Nat.le_of_ble_eq_true rfl, Nat.le_of_ble_eq_true rfl⟩ (Nat.le_of_ble_eq_true rfl) ⟨Nat.le_of_ble_eq_true rfl, Nat.le_of_ble_eq_true rfl⟩ dX11_readRope_1 (fun H locs hw => ?_)
  refine lv_bipush (v := 8) fx.1 fx.2.1 dX11_readRope_4 (by decide) ?_
  refine g_icmp_ne (tgt := 11) fx dX11_readRope_6 (by decide) hok (fun hok => ?_) (fun hok => ?_)
  · refine lv_iconst (v := 0) fx.1 fx.2.1 dX11_readRope_9 (by decide) ?_
    cases gOk_some hok
    exact g_zret fx hw hr (by decide) dX11_readRope_10
  · refine lv_aload_n fx.1 fx.2.1 dX11_readRope_11 rfl (lv_at hl 0 rfl) ?_
    refine lv_iconst (v := 0) fx.1 fx.2.1 dX11_readRope_12 (by decide) ?_
    refine lv_aload_n fx.1 fx.2.1 dX11_readRope_13 rfl (lv_at hl 0 rfl) ?_
    obtain ⟨v2, hf, hok⟩ := gOk_bind hok
    refine g_callV0 (κ := 11) fx hw (c_X11_yarns l X τ x0 G h0 hf) lv_RX11_65 ⟨rfl, rfl⟩ rfl rfl h0 rfl hl.1 rfl ⟨Nat.le_of_ble_eq_true rfl, Nat.le_of_ble_eq_true rfl⟩ (Nat.le_of_ble_eq_true rfl) ⟨Nat.le_of_ble_eq_true rfl, Nat.le_of_ble_eq_true rfl⟩ dX11_readRope_14 (fun H locs hw => ?_)
    refine lv_iconst (v := 1) fx.1 fx.2.1 dX11_readRope_17 (by decide) ?_
    refine lv_isub fx.1 fx.2.1 dX11_readRope_18 ?_
    obtain ⟨v3, G4, hf, hok⟩ := gOk_bind2 hok
    refine g_callV0 (κ := 11) fx hw (c_X11_number l X τ n x0 (0 : Int32) (v2 - (1 : Int32)) G h0 hf) lv_RX11_115 ⟨rfl, rfl⟩ rfl rfl h0 rfl hl.1 rfl ⟨Nat.le_of_ble_eq_true rfl, Nat.le_of_ble_eq_true rfl⟩ (Nat.le_of_ble_eq_true rfl) ⟨Nat.le_of_ble_eq_true rfl, Nat.le_of_ble_eq_true rfl⟩ dX11_readRope_19 (fun H locs hw => ?_)
    refine lv_istore_n (lv' := [(1, .int v3), (0, .ref x0)]) fx.1 fx.2.1 dX11_readRope_22 rfl hl (by decide) rfl (fun ls hl => ?_)
    refine lv_iload_n fx.1 fx.2.1 dX11_readRope_23 rfl (lv_at hl 0 rfl) ?_
    refine g_if_ge (tgt := 31) fx dX11_readRope_24 (by decide) hok (fun hok => ?_) (fun hok => ?_)
    · refine lv_aload_n fx.1 fx.2.1 dX11_readRope_31 rfl (lv_at hl 1 rfl) ?_
      refine lv_iconst (v := 0) fx.1 fx.2.1 dX11_readRope_32 (by decide) ?_
      refine lv_aload_n fx.1 fx.2.1 dX11_readRope_33 rfl (lv_at hl 1 rfl) ?_
      obtain ⟨v5, hf, hok⟩ := gOk_bind hok
      refine g_callV0 (κ := 11) fx hw (c_X11_yarns l X τ x0 G4 h0 hf) lv_RX11_65 ⟨rfl, rfl⟩ rfl rfl h0 rfl hl.1 rfl ⟨Nat.le_of_ble_eq_true rfl, Nat.le_of_ble_eq_true rfl⟩ (Nat.le_of_ble_eq_true rfl) ⟨Nat.le_of_ble_eq_true rfl, Nat.le_of_ble_eq_true rfl⟩ dX11_readRope_34 (fun H locs hw => ?_)
      refine lv_iconst (v := 1) fx.1 fx.2.1 dX11_readRope_37 (by decide) ?_
      refine lv_isub fx.1 fx.2.1 dX11_readRope_38 ?_
      obtain ⟨v6, G7, hf, hok⟩ := gOk_bind2 hok
      refine g_callV0 (κ := 11) fx hw (c_X11_number l X τ n x0 (0 : Int32) (v5 - (1 : Int32)) G4 h0 hf) lv_RX11_115 ⟨rfl, rfl⟩ rfl rfl h0 rfl hl.1 rfl ⟨Nat.le_of_ble_eq_true rfl, Nat.le_of_ble_eq_true rfl⟩ (Nat.le_of_ble_eq_true rfl) ⟨Nat.le_of_ble_eq_true rfl, Nat.le_of_ble_eq_true rfl⟩ dX11_readRope_39 (fun H locs hw => ?_)
      exact w_X11_readRope_42 fx hS n x0 v3 v6 h0  hr hw (lv_sub hl [1, 0] rfl) hok
    · refine lv_iconst (v := (-1)) fx.1 fx.2.1 dX11_readRope_27 (by decide) ?_
      refine lv_goto (tgt := 42) fx.1 fx.2.1 dX11_readRope_28 (by decide) ?_
      exact w_X11_readRope_42 fx hS n x0 v3 (-1 : Int32) h0  hr hw (lv_sub hl [1, 0] rfl) hok
theorem dX11_readOrder_0 : decode cX11_readOrder 0 = .ok (.aload_n 0, 1) := by decide +kernel
theorem dX11_readOrder_1 : decode cX11_readOrder 1 = .ok (.invokevirtual 76, 3) := by decide +kernel
theorem dX11_readOrder_4 : decode cX11_readOrder 4 = .ok (.bipush 8, 2) := by decide +kernel
theorem dX11_readOrder_6 : decode cX11_readOrder 6 = .ok (.if_icmp .ne 5, 3) := by decide +kernel
theorem dX11_readOrder_9 : decode cX11_readOrder 9 = .ok (.iconst 0, 1) := by decide +kernel
theorem dX11_readOrder_10 : decode cX11_readOrder 10 = .ok (.ireturn, 1) := by decide +kernel
theorem dX11_readOrder_11 : decode cX11_readOrder 11 = .ok (.aload_n 0, 1) := by decide +kernel
theorem dX11_readOrder_12 : decode cX11_readOrder 12 = .ok (.iconst 1, 1) := by decide +kernel
theorem dX11_readOrder_13 : decode cX11_readOrder 13 = .ok (.sipush 400, 3) := by decide +kernel
theorem dX11_readOrder_16 : decode cX11_readOrder 16 = .ok (.invokevirtual 115, 3) := by decide +kernel
theorem dX11_readOrder_19 : decode cX11_readOrder 19 = .ok (.istore_n 1, 1) := by decide +kernel
theorem dX11_readOrder_20 : decode cX11_readOrder 20 = .ok (.iload_n 1, 1) := by decide +kernel
theorem dX11_readOrder_21 : decode cX11_readOrder 21 = .ok (.ifCond .ge 7, 3) := by decide +kernel
theorem dX11_readOrder_24 : decode cX11_readOrder 24 = .ok (.iconst (-1), 1) := by decide +kernel
theorem dX11_readOrder_25 : decode cX11_readOrder 25 = .ok (.goto 12, 3) := by decide +kernel
theorem dX11_readOrder_28 : decode cX11_readOrder 28 = .ok (.aload_n 0, 1) := by decide +kernel
theorem dX11_readOrder_29 : decode cX11_readOrder 29 = .ok (.ldc 118, 2) := by decide +kernel
theorem dX11_readOrder_31 : decode cX11_readOrder 31 = .ok (.iconst 1, 1) := by decide +kernel
theorem dX11_readOrder_32 : decode cX11_readOrder 32 = .ok (.bipush 60, 2) := by decide +kernel
theorem dX11_readOrder_34 : decode cX11_readOrder 34 = .ok (.invokevirtual 120, 3) := by decide +kernel
theorem dX11_readOrder_37 : decode cX11_readOrder 37 = .ok (.istore_n 2, 1) := by decide +kernel
theorem dX11_readOrder_38 : decode cX11_readOrder 38 = .ok (.iload_n 2, 1) := by decide +kernel
theorem dX11_readOrder_39 : decode cX11_readOrder 39 = .ok (.ifCond .ge 7, 3) := by decide +kernel
theorem dX11_readOrder_42 : decode cX11_readOrder 42 = .ok (.iconst (-1), 1) := by decide +kernel
theorem dX11_readOrder_43 : decode cX11_readOrder 43 = .ok (.goto 12, 3) := by decide +kernel
theorem dX11_readOrder_46 : decode cX11_readOrder 46 = .ok (.aload_n 0, 1) := by decide +kernel
theorem dX11_readOrder_47 : decode cX11_readOrder 47 = .ok (.ldc 144, 2) := by decide +kernel
theorem dX11_readOrder_49 : decode cX11_readOrder 49 = .ok (.iconst 0, 1) := by decide +kernel
theorem dX11_readOrder_50 : decode cX11_readOrder 50 = .ok (.bipush 99, 2) := by decide +kernel
theorem dX11_readOrder_52 : decode cX11_readOrder 52 = .ok (.invokevirtual 120, 3) := by decide +kernel
theorem dX11_readOrder_55 : decode cX11_readOrder 55 = .ok (.istore_n 3, 1) := by decide +kernel
theorem dX11_readOrder_56 : decode cX11_readOrder 56 = .ok (.iload_n 3, 1) := by decide +kernel
theorem dX11_readOrder_57 : decode cX11_readOrder 57 = .ok (.ifCond .ge 5, 3) := by decide +kernel
theorem dX11_readOrder_60 : decode cX11_readOrder 60 = .ok (.iconst 0, 1) := by decide +kernel
theorem dX11_readOrder_61 : decode cX11_readOrder 61 = .ok (.ireturn, 1) := by decide +kernel
theorem dX11_readOrder_62 : decode cX11_readOrder 62 = .ok (.sipush 143, 3) := by decide +kernel
theorem dX11_readOrder_65 : decode cX11_readOrder 65 = .ok (.iconst 3, 1) := by decide +kernel
theorem dX11_readOrder_66 : decode cX11_readOrder 66 = .ok (.aload_n 0, 1) := by decide +kernel
theorem dX11_readOrder_67 : decode cX11_readOrder 67 = .ok (.invokevirtual 76, 3) := by decide +kernel
theorem dX11_readOrder_70 : decode cX11_readOrder 70 = .ok (.imul, 1) := by decide +kernel
theorem dX11_readOrder_71 : decode cX11_readOrder 71 = .ok (.iadd, 1) := by decide +kernel
theorem dX11_readOrder_72 : decode cX11_readOrder 72 = .ok (.istore 4, 2) := by decide +kernel
theorem dX11_readOrder_74 : decode cX11_readOrder 74 = .ok (.aload_n 0, 1) := by decide +kernel
theorem dX11_readOrder_75 : decode cX11_readOrder 75 = .ok (.getfield 13, 3) := by decide +kernel
theorem dX11_readOrder_78 : decode cX11_readOrder 78 = .ok (.iload 4, 2) := by decide +kernel
theorem dX11_readOrder_80 : decode cX11_readOrder 80 = .ok (.iconst 0, 1) := by decide +kernel
theorem dX11_readOrder_81 : decode cX11_readOrder 81 = .ok (.iadd, 1) := by decide +kernel
theorem dX11_readOrder_82 : decode cX11_readOrder 82 = .ok (.iload_n 1, 1) := by decide +kernel
theorem dX11_readOrder_83 : decode cX11_readOrder 83 = .ok (.iastore, 1) := by decide +kernel
theorem dX11_readOrder_84 : decode cX11_readOrder 84 = .ok (.aload_n 0, 1) := by decide +kernel
theorem dX11_readOrder_85 : decode cX11_readOrder 85 = .ok (.getfield 13, 3) := by decide +kernel
theorem dX11_readOrder_88 : decode cX11_readOrder 88 = .ok (.iload 4, 2) := by decide +kernel
theorem dX11_readOrder_90 : decode cX11_readOrder 90 = .ok (.iconst 1, 1) := by decide +kernel
theorem dX11_readOrder_91 : decode cX11_readOrder 91 = .ok (.iadd, 1) := by decide +kernel
theorem dX11_readOrder_92 : decode cX11_readOrder 92 = .ok (.iload_n 2, 1) := by decide +kernel
theorem dX11_readOrder_93 : decode cX11_readOrder 93 = .ok (.iastore, 1) := by decide +kernel
theorem dX11_readOrder_94 : decode cX11_readOrder 94 = .ok (.aload_n 0, 1) := by decide +kernel
theorem dX11_readOrder_95 : decode cX11_readOrder 95 = .ok (.getfield 13, 3) := by decide +kernel
theorem dX11_readOrder_98 : decode cX11_readOrder 98 = .ok (.iload 4, 2) := by decide +kernel
theorem dX11_readOrder_100 : decode cX11_readOrder 100 = .ok (.iconst 2, 1) := by decide +kernel
theorem dX11_readOrder_101 : decode cX11_readOrder 101 = .ok (.iadd, 1) := by decide +kernel
theorem dX11_readOrder_102 : decode cX11_readOrder 102 = .ok (.iload_n 3, 1) := by decide +kernel
theorem dX11_readOrder_103 : decode cX11_readOrder 103 = .ok (.iastore, 1) := by decide +kernel
theorem dX11_readOrder_104 : decode cX11_readOrder 104 = .ok (.aload_n 0, 1) := by decide +kernel
theorem dX11_readOrder_105 : decode cX11_readOrder 105 = .ok (.getfield 13, 3) := by decide +kernel
theorem dX11_readOrder_108 : decode cX11_readOrder 108 = .ok (.iconst 2, 1) := by decide +kernel
theorem dX11_readOrder_109 : decode cX11_readOrder 109 = .ok (.dup2, 1) := by decide +kernel
theorem dX11_readOrder_110 : decode cX11_readOrder 110 = .ok (.iaload, 1) := by decide +kernel
theorem dX11_readOrder_111 : decode cX11_readOrder 111 = .ok (.iconst 1, 1) := by decide +kernel
theorem dX11_readOrder_112 : decode cX11_readOrder 112 = .ok (.iadd, 1) := by decide +kernel
theorem dX11_readOrder_113 : decode cX11_readOrder 113 = .ok (.iastore, 1) := by decide +kernel
theorem dX11_readOrder_114 : decode cX11_readOrder 114 = .ok (.iconst 1, 1) := by decide +kernel
theorem dX11_readOrder_115 : decode cX11_readOrder 115 = .ok (.ireturn, 1) := by decide +kernel
def rm_X11_readOrder : Room := { frames := 6, cells := 0, slots := 0, locals := 206 }
def k_X11_readOrder_55 (τ : gτ) (n : Nat) (x0 : Nat) (x1 : Int32) (x2 : Int32) (s0 : Int32) (G : gG) : Option (Int32 × gG) :=
  if 0 ≤ s0 then ((f_X11_orders τ x0 G).bind fun v10 =>
  gLet ((143 : Int32) + ((3 : Int32) * v10)) fun v11 =>
  (gr G 11 1 x0).bind fun a12 =>
  gchk (gIn (v11 + (0 : Int32)) (gn τ a12)) <| gLet (gse G a12 (Int32.toNatClampNeg (v11 + (0 : Int32))) x1) fun G13 =>
  (gr G13 11 1 x0).bind fun a14 =>
  gchk (gIn (v11 + (1 : Int32)) (gn τ a14)) <| gLet (gse G13 a14 (Int32.toNatClampNeg (v11 + (1 : Int32))) x2) fun G15 =>
  (gr G15 11 1 x0).bind fun a16 =>
  gchk (gIn (v11 + (2 : Int32)) (gn τ a16)) <| gLet (gse G15 a16 (Int32.toNatClampNeg (v11 + (2 : Int32))) s0) fun G17 =>
  (gr G17 11 1 x0).bind fun a18 =>
  gchk (gIn (2 : Int32) (gn τ a18)) <|
  gchk (gIn (2 : Int32) (gn τ a18)) <| gLet (gse G17 a18 (Int32.toNatClampNeg (2 : Int32)) ((ge G17 a18 (Int32.toNatClampNeg (2 : Int32))) + (1 : Int32))) fun G19 =>
  some (1, G19))
  else (some (0, G))
def k_X11_readOrder_37 (τ : gτ) (n : Nat) (x0 : Nat) (x1 : Int32) (s0 : Int32) (G : gG) : Option (Int32 × gG) :=
  if 0 ≤ s0 then (gBind2 (f_X11_after τ n x0 s_pay (0 : Int32) (99 : Int32) G) fun v8 G9 =>
  k_X11_readOrder_55 τ n x0 x1 s0 v8 G9)
  else (k_X11_readOrder_55 τ n x0 x1 s0 (-1 : Int32) G)
def f_X11_readOrder (τ : gτ) (n : Nat) (x0 : Nat) (G : gG) : Option (Int32 × gG) :=
  (f_X11_orders τ x0 G).bind fun v1 =>
  if v1 = (8 : Int32) then (some (0, G))
  else (gBind2 (f_X11_number τ n x0 (1 : Int32) (400 : Int32) G) fun v2 G3 =>
  if 0 ≤ v2 then (gBind2 (f_X11_after τ n x0 s_long (1 : Int32) (60 : Int32) G3) fun v5 G6 =>
  k_X11_readOrder_37 τ n x0 v2 v5 G6)
  else (k_X11_readOrder_37 τ n x0 v2 (-1 : Int32) G3))
set_option maxHeartbeats 4000000 in
set_option maxRecDepth 100000 in
theorem w_X11_readOrder_55 {X : gX} {τ : gτ} {p : Program} {l : Launch} {e : Env} {s : State} {m : MethodId} {args : Array Value} {below : List Frame} {meth : Method} {c : Code} (fx : gFx X p s m args meth c cX11_readOrder 5 RX11) (hS : gS0 l X) (n : Nat) (x0 : Nat) (x1 : Int32) (x2 : Int32) (s0 : Int32) (h0 : gK τ x0 11)  (hr : meth.sig.returnType = (some .boolean)) {r : Int32} {G' : gG} {G : gG} {H : Heap} {locs : List Loc} {ls : Array Slot} (hw : gHw X τ G H locs) (hl : lv_has ls 5 [(0, .ref x0), (1, .int x1), (2, .int x2)]) (hok : gOk (k_X11_readOrder_55 τ n x0 x1 x2 s0 G) (fun q => q = (r, G')))  : W p l e rm_X11_readOrder s m args below meth c H locs 0 0 (MQ below (gQ X τ (some (.int r)) G') args s 0 0 (gFree X)) (F0 m 55 ls [.int s0]) := by
  unfold k_X11_readOrder_55 at hok
  refine lv_istore_n (lv' := [(3, .int s0), (0, .ref x0), (1, .int x1), (2, .int x2)]) fx.1 fx.2.1 dX11_readOrder_55 rfl hl (by decide) rfl (fun ls hl => ?_)
  refine lv_iload_n fx.1 fx.2.1 dX11_readOrder_56 rfl (lv_at hl 0 rfl) ?_
  refine g_if_ge (tgt := 62) fx dX11_readOrder_57 (by decide) hok (fun hok => ?_) (fun hok => ?_)
  · refine lv_sipush (v := 143) fx.1 fx.2.1 dX11_readOrder_62 (by decide) ?_
    refine lv_iconst (v := 3) fx.1 fx.2.1 dX11_readOrder_65 (by decide) ?_
    refine lv_aload_n fx.1 fx.2.1 dX11_readOrder_66 rfl (lv_at hl 1 rfl) ?_
    obtain ⟨v10, hf, hok⟩ := gOk_bind hok
    refine g_callV0 (κ := 11) fx hw (c_X11_orders l X τ x0 G h0 hf) lv_RX11_76 ⟨rfl, rfl⟩ rfl rfl h0 rfl hl.1 rfl ⟨Nat.le_of_ble_eq_true rfl, Nat.le_of_ble_eq_true rfl⟩ (Nat.le_of_ble_eq_true rfl) ⟨Nat.le_of_ble_eq_true rfl, Nat.le_of_ble_eq_true rfl⟩ dX11_readOrder_67 (fun H locs hw => ?_)
    refine lv_imul fx.1 fx.2.1 dX11_readOrder_70 ?_
    refine lv_iadd fx.1 fx.2.1 dX11_readOrder_71 ?_
    refine g_leti hok (fun v11 hok => ?_)
    refine lv_istore (lv' := [(4, .int v11), (3, .int s0), (0, .ref x0), (1, .int x1), (2, .int x2)]) fx.1 fx.2.1 dX11_readOrder_72 hl (by decide) rfl (fun ls hl => ?_)
    refine lv_aload_n fx.1 fx.2.1 dX11_readOrder_74 rfl (lv_at hl 2 rfl) ?_
    refine g_getr fx hw h0 lf_RX11_13 rfl dX11_readOrder_75 hok (fun a12 h_a12 hok => ?_)
    refine lv_iload fx.1 fx.2.1 dX11_readOrder_78 (lv_at hl 0 rfl) ?_
    refine lv_iconst (v := 0) fx.1 fx.2.1 dX11_readOrder_80 (by decide) ?_
    refine lv_iadd fx.1 fx.2.1 dX11_readOrder_81 ?_
    refine lv_iload_n fx.1 fx.2.1 dX11_readOrder_82 rfl (lv_at hl 3 rfl) ?_
    refine g_iast fx hw h_a12 dX11_readOrder_83 hok (fun G13 H locs hw hok => ?_)
    refine lv_aload_n fx.1 fx.2.1 dX11_readOrder_84 rfl (lv_at hl 2 rfl) ?_
    refine g_getr fx hw h0 lf_RX11_13 rfl dX11_readOrder_85 hok (fun a14 h_a14 hok => ?_)
    refine lv_iload fx.1 fx.2.1 dX11_readOrder_88 (lv_at hl 0 rfl) ?_
    refine lv_iconst (v := 1) fx.1 fx.2.1 dX11_readOrder_90 (by decide) ?_
    refine lv_iadd fx.1 fx.2.1 dX11_readOrder_91 ?_
    refine lv_iload_n fx.1 fx.2.1 dX11_readOrder_92 rfl (lv_at hl 4 rfl) ?_
    refine g_iast fx hw h_a14 dX11_readOrder_93 hok (fun G15 H locs hw hok => ?_)
    refine lv_aload_n fx.1 fx.2.1 dX11_readOrder_94 rfl (lv_at hl 2 rfl) ?_
    refine g_getr fx hw h0 lf_RX11_13 rfl dX11_readOrder_95 hok (fun a16 h_a16 hok => ?_)
    refine lv_iload fx.1 fx.2.1 dX11_readOrder_98 (lv_at hl 0 rfl) ?_
    refine lv_iconst (v := 2) fx.1 fx.2.1 dX11_readOrder_100 (by decide) ?_
    refine lv_iadd fx.1 fx.2.1 dX11_readOrder_101 ?_
    refine lv_iload_n fx.1 fx.2.1 dX11_readOrder_102 rfl (lv_at hl 1 rfl) ?_
    refine g_iast fx hw h_a16 dX11_readOrder_103 hok (fun G17 H locs hw hok => ?_)
    refine lv_aload_n fx.1 fx.2.1 dX11_readOrder_104 rfl (lv_at hl 2 rfl) ?_
    refine g_getr fx hw h0 lf_RX11_13 rfl dX11_readOrder_105 hok (fun a18 h_a18 hok => ?_)
    refine lv_iconst (v := 2) fx.1 fx.2.1 dX11_readOrder_108 (by decide) ?_
    refine lv_dup2_11 fx.1 fx.2.1 dX11_readOrder_109 rfl rfl ?_
    refine g_iald fx hw h_a18 dX11_readOrder_110 hok (fun hok => ?_)
    refine lv_iconst (v := 1) fx.1 fx.2.1 dX11_readOrder_111 (by decide) ?_
    refine lv_iadd fx.1 fx.2.1 dX11_readOrder_112 ?_
    refine g_iast fx hw h_a18 dX11_readOrder_113 hok (fun G19 H locs hw hok => ?_)
    refine lv_iconst (v := 1) fx.1 fx.2.1 dX11_readOrder_114 (by decide) ?_
    cases gOk_some hok
    exact g_zret fx hw hr (by decide) dX11_readOrder_115
  · refine lv_iconst (v := 0) fx.1 fx.2.1 dX11_readOrder_60 (by decide) ?_
    cases gOk_some hok
    exact g_zret fx hw hr (by decide) dX11_readOrder_61
set_option maxHeartbeats 4000000 in
set_option maxRecDepth 100000 in
theorem w_X11_readOrder_37 {X : gX} {τ : gτ} {p : Program} {l : Launch} {e : Env} {s : State} {m : MethodId} {args : Array Value} {below : List Frame} {meth : Method} {c : Code} (fx : gFx X p s m args meth c cX11_readOrder 5 RX11) (hS : gS0 l X) (n : Nat) (x0 : Nat) (x1 : Int32) (s0 : Int32) (h0 : gK τ x0 11)  (hr : meth.sig.returnType = (some .boolean)) {r : Int32} {G' : gG} {G : gG} {H : Heap} {locs : List Loc} {ls : Array Slot} (hw : gHw X τ G H locs) (hl : lv_has ls 5 [(0, .ref x0), (1, .int x1)]) (hok : gOk (k_X11_readOrder_37 τ n x0 x1 s0 G) (fun q => q = (r, G')))  : W p l e rm_X11_readOrder s m args below meth c H locs 0 0 (MQ below (gQ X τ (some (.int r)) G') args s 0 0 (gFree X)) (F0 m 37 ls [.int s0]) := by
  unfold k_X11_readOrder_37 at hok
  refine lv_istore_n (lv' := [(2, .int s0), (0, .ref x0), (1, .int x1)]) fx.1 fx.2.1 dX11_readOrder_37 rfl hl (by decide) rfl (fun ls hl => ?_)
  refine lv_iload_n fx.1 fx.2.1 dX11_readOrder_38 rfl (lv_at hl 0 rfl) ?_
  refine g_if_ge (tgt := 46) fx dX11_readOrder_39 (by decide) hok (fun hok => ?_) (fun hok => ?_)
  · refine lv_aload_n fx.1 fx.2.1 dX11_readOrder_46 rfl (lv_at hl 1 rfl) ?_
    refine g_ldcS fx hS gt_RX11_144 dX11_readOrder_47 (fun w7 h_w7 => ?_)
    refine lv_iconst (v := 0) fx.1 fx.2.1 dX11_readOrder_49 (by decide) ?_
    refine lv_bipush (v := 99) fx.1 fx.2.1 dX11_readOrder_50 (by decide) ?_
    obtain ⟨v8, G9, hf, hok⟩ := gOk_bind2 hok
    refine g_callV0 (κ := 11) fx hw (c_X11_after l X τ n hS x0 s_pay (0 : Int32) (99 : Int32) G h0 h_w7 hf) lv_RX11_120 ⟨rfl, rfl⟩ rfl rfl h0 rfl hl.1 rfl ⟨Nat.le_of_ble_eq_true rfl, Nat.le_of_ble_eq_true rfl⟩ (Nat.le_of_ble_eq_true rfl) ⟨Nat.le_of_ble_eq_true rfl, Nat.le_of_ble_eq_true rfl⟩ dX11_readOrder_52 (fun H locs hw => ?_)
    exact w_X11_readOrder_55 fx hS n x0 x1 s0 v8 h0  hr hw (lv_sub hl [1, 2, 0] rfl) hok
  · refine lv_iconst (v := (-1)) fx.1 fx.2.1 dX11_readOrder_42 (by decide) ?_
    refine lv_goto (tgt := 55) fx.1 fx.2.1 dX11_readOrder_43 (by decide) ?_
    exact w_X11_readOrder_55 fx hS n x0 x1 s0 (-1 : Int32) h0  hr hw (lv_sub hl [1, 2, 0] rfl) hok
set_option maxHeartbeats 4000000 in
set_option maxRecDepth 100000 in
theorem c_X11_readOrder (l : Launch) (X : gX) (τ : gτ) (n : Nat) (hS : gS0 l X) (x0 : Nat) (G : gG) (h0 : gK τ x0 11) {r : Int32} {G' : gG} (h : f_X11_readOrder τ n x0 G = some (r, G')) : gM l X τ yX11_readOrder cX11_readOrder 5 (some .boolean) rm_X11_readOrder [.ref x0] G (some (.int r)) G' := by
  refine g_body (by decide +kernel) (Nat.le_of_ble_eq_true rfl) ?_
  intro p e s m args below meth c ls fx hr hw hl
  have fx : gFx X p s m args meth c cX11_readOrder 5 RX11 := fx
  have hl : lv_has ls 5 [(0, .ref x0)] := hl
  have hok : gOk (f_X11_readOrder τ n x0 G) (fun q => q = (r, G')) := ⟨_, h, rfl⟩
  unfold f_X11_readOrder at hok
  show W p l e rm_X11_readOrder s m args below meth c s.heap [] 0 0 (MQ below (gQ X τ (some (.int r)) G') args s 0 0 (gFree X)) _
  refine lv_aload_n fx.1 fx.2.1 dX11_readOrder_0 rfl (lv_at hl 0 rfl) ?_
  obtain ⟨v1, hf, hok⟩ := gOk_bind hok
  refine g_callV0 (κ := 11) fx hw (c_X11_orders l X τ x0 G h0 hf) lv_RX11_76 ⟨rfl, rfl⟩ rfl rfl h0 rfl hl.1 rfl ⟨Nat.le_of_ble_eq_true rfl, Nat.le_of_ble_eq_true rfl⟩ (Nat.le_of_ble_eq_true rfl) ⟨Nat.le_of_ble_eq_true rfl, Nat.le_of_ble_eq_true rfl⟩ dX11_readOrder_1 (fun H locs hw => ?_)
  refine lv_bipush (v := 8) fx.1 fx.2.1 dX11_readOrder_4 (by decide) ?_
  refine g_icmp_ne (tgt := 11) fx dX11_readOrder_6 (by decide) hok (fun hok => ?_) (fun hok => ?_)
  · refine lv_iconst (v := 0) fx.1 fx.2.1 dX11_readOrder_9 (by decide) ?_
    cases gOk_some hok
    exact g_zret fx hw hr (by decide) dX11_readOrder_10
  · refine lv_aload_n fx.1 fx.2.1 dX11_readOrder_11 rfl (lv_at hl 0 rfl) ?_
    refine lv_iconst (v := 1) fx.1 fx.2.1 dX11_readOrder_12 (by decide) ?_
    refine lv_sipush (v := 400) fx.1 fx.2.1 dX11_readOrder_13 (by decide) ?_
    obtain ⟨v2, G3, hf, hok⟩ := gOk_bind2 hok
    refine g_callV0 (κ := 11) fx hw (c_X11_number l X τ n x0 (1 : Int32) (400 : Int32) G h0 hf) lv_RX11_115 ⟨rfl, rfl⟩ rfl rfl h0 rfl hl.1 rfl ⟨Nat.le_of_ble_eq_true rfl, Nat.le_of_ble_eq_true rfl⟩ (Nat.le_of_ble_eq_true rfl) ⟨Nat.le_of_ble_eq_true rfl, Nat.le_of_ble_eq_true rfl⟩ dX11_readOrder_16 (fun H locs hw => ?_)
    refine lv_istore_n (lv' := [(1, .int v2), (0, .ref x0)]) fx.1 fx.2.1 dX11_readOrder_19 rfl hl (by decide) rfl (fun ls hl => ?_)
    refine lv_iload_n fx.1 fx.2.1 dX11_readOrder_20 rfl (lv_at hl 0 rfl) ?_
    refine g_if_ge (tgt := 28) fx dX11_readOrder_21 (by decide) hok (fun hok => ?_) (fun hok => ?_)
    · refine lv_aload_n fx.1 fx.2.1 dX11_readOrder_28 rfl (lv_at hl 1 rfl) ?_
      refine g_ldcS fx hS gt_RX11_118 dX11_readOrder_29 (fun w4 h_w4 => ?_)
      refine lv_iconst (v := 1) fx.1 fx.2.1 dX11_readOrder_31 (by decide) ?_
      refine lv_bipush (v := 60) fx.1 fx.2.1 dX11_readOrder_32 (by decide) ?_
      obtain ⟨v5, G6, hf, hok⟩ := gOk_bind2 hok
      refine g_callV0 (κ := 11) fx hw (c_X11_after l X τ n hS x0 s_long (1 : Int32) (60 : Int32) G3 h0 h_w4 hf) lv_RX11_120 ⟨rfl, rfl⟩ rfl rfl h0 rfl hl.1 rfl ⟨Nat.le_of_ble_eq_true rfl, Nat.le_of_ble_eq_true rfl⟩ (Nat.le_of_ble_eq_true rfl) ⟨Nat.le_of_ble_eq_true rfl, Nat.le_of_ble_eq_true rfl⟩ dX11_readOrder_34 (fun H locs hw => ?_)
      exact w_X11_readOrder_37 fx hS n x0 v2 v5 h0  hr hw (lv_sub hl [1, 0] rfl) hok
    · refine lv_iconst (v := (-1)) fx.1 fx.2.1 dX11_readOrder_24 (by decide) ?_
      refine lv_goto (tgt := 37) fx.1 fx.2.1 dX11_readOrder_25 (by decide) ?_
      exact w_X11_readOrder_37 fx hS n x0 v2 (-1 : Int32) h0  hr hw (lv_sub hl [1, 0] rfl) hok
theorem dX11_readOf_0 : decode cX11_readOf 0 = .ok (.aload_n 0, 1) := by decide +kernel
theorem dX11_readOf_1 : decode cX11_readOf 1 = .ok (.iconst 0, 1) := by decide +kernel
theorem dX11_readOf_2 : decode cX11_readOf 2 = .ok (.aload_n 0, 1) := by decide +kernel
theorem dX11_readOf_3 : decode cX11_readOf 3 = .ok (.invokevirtual 73, 3) := by decide +kernel
theorem dX11_readOf_6 : decode cX11_readOf 6 = .ok (.iconst 1, 1) := by decide +kernel
theorem dX11_readOf_7 : decode cX11_readOf 7 = .ok (.isub, 1) := by decide +kernel
theorem dX11_readOf_8 : decode cX11_readOf 8 = .ok (.invokevirtual 115, 3) := by decide +kernel
theorem dX11_readOf_11 : decode cX11_readOf 11 = .ok (.istore_n 3, 1) := by decide +kernel
theorem dX11_readOf_12 : decode cX11_readOf 12 = .ok (.iload_n 3, 1) := by decide +kernel
theorem dX11_readOf_13 : decode cX11_readOf 13 = .ok (.ifCond .lt 11, 3) := by decide +kernel
theorem dX11_readOf_16 : decode cX11_readOf 16 = .ok (.aload_n 0, 1) := by decide +kernel
theorem dX11_readOf_17 : decode cX11_readOf 17 = .ok (.iload_n 3, 1) := by decide +kernel
theorem dX11_readOf_18 : decode cX11_readOf 18 = .ok (.invokevirtual 146, 3) := by decide +kernel
theorem dX11_readOf_21 : decode cX11_readOf 21 = .ok (.ifCond .ne 5, 3) := by decide +kernel
theorem dX11_readOf_24 : decode cX11_readOf 24 = .ok (.iconst 0, 1) := by decide +kernel
theorem dX11_readOf_25 : decode cX11_readOf 25 = .ok (.ireturn, 1) := by decide +kernel
theorem dX11_readOf_26 : decode cX11_readOf 26 = .ok (.iload_n 1, 1) := by decide +kernel
theorem dX11_readOf_27 : decode cX11_readOf 27 = .ok (.bipush 6, 2) := by decide +kernel
theorem dX11_readOf_29 : decode cX11_readOf 29 = .ok (.if_icmp .ne 7, 3) := by decide +kernel
theorem dX11_readOf_32 : decode cX11_readOf 32 = .ok (.iconst 1, 1) := by decide +kernel
theorem dX11_readOf_33 : decode cX11_readOf 33 = .ok (.goto 9, 3) := by decide +kernel
theorem dX11_readOf_36 : decode cX11_readOf 36 = .ok (.aload_n 0, 1) := by decide +kernel
theorem dX11_readOf_37 : decode cX11_readOf 37 = .ok (.iconst 0, 1) := by decide +kernel
theorem dX11_readOf_38 : decode cX11_readOf 38 = .ok (.iload_n 2, 1) := by decide +kernel
theorem dX11_readOf_39 : decode cX11_readOf 39 = .ok (.invokevirtual 115, 3) := by decide +kernel
theorem dX11_readOf_42 : decode cX11_readOf 42 = .ok (.istore 4, 2) := by decide +kernel
theorem dX11_readOf_44 : decode cX11_readOf 44 = .ok (.iload 4, 2) := by decide +kernel
theorem dX11_readOf_46 : decode cX11_readOf 46 = .ok (.ifCond .lt 15, 3) := by decide +kernel
theorem dX11_readOf_49 : decode cX11_readOf 49 = .ok (.aload_n 0, 1) := by decide +kernel
theorem dX11_readOf_50 : decode cX11_readOf 50 = .ok (.getfield 13, 3) := by decide +kernel
theorem dX11_readOf_53 : decode cX11_readOf 53 = .ok (.iload_n 3, 1) := by decide +kernel
theorem dX11_readOf_54 : decode cX11_readOf 54 = .ok (.iload_n 1, 1) := by decide +kernel
theorem dX11_readOf_55 : decode cX11_readOf 55 = .ok (.invokestatic 59, 3) := by decide +kernel
theorem dX11_readOf_58 : decode cX11_readOf 58 = .ok (.iload 4, 2) := by decide +kernel
theorem dX11_readOf_60 : decode cX11_readOf 60 = .ok (.iastore, 1) := by decide +kernel
theorem dX11_readOf_61 : decode cX11_readOf 61 = .ok (.iload 4, 2) := by decide +kernel
theorem dX11_readOf_63 : decode cX11_readOf 63 = .ok (.ifCond .lt 7, 3) := by decide +kernel
theorem dX11_readOf_66 : decode cX11_readOf 66 = .ok (.iconst 1, 1) := by decide +kernel
theorem dX11_readOf_67 : decode cX11_readOf 67 = .ok (.goto 4, 3) := by decide +kernel
theorem dX11_readOf_70 : decode cX11_readOf 70 = .ok (.iconst 0, 1) := by decide +kernel
theorem dX11_readOf_71 : decode cX11_readOf 71 = .ok (.ireturn, 1) := by decide +kernel
theorem lv_RX11_146 : gLv RX11 146 RX11 yX11_isWhole cX11_isWhole 2 (some .boolean) 1 := gLv_of (wA_t (wt7 (List.mem_of_getElem? (i := 163) (by decide +kernel))) (by decide +kernel)) (wA_t (wt7 (List.mem_of_getElem? (i := 165) (by decide +kernel))) (by decide +kernel)) (wA_of (List.mem_append_left _ (List.mem_map.mpr ⟨(⟨"YearRopeModel", "isWhole", "(I)Z"⟩, 20), wp4 (List.mem_of_getElem? (i := 15) (by decide +kernel)), rfl⟩)) (by decide +kernel)) (wA_t (wt1 (List.mem_of_getElem? (i := 12) (by decide +kernel))) (by decide +kernel)) (wA_t (wt7 (List.mem_of_getElem? (i := 166) (by decide +kernel))) (by decide +kernel)) ⟨rfl, by decide +kernel, by decide +kernel, by decide +kernel⟩
def rm_X11_readOf : Room := { frames := 3, cells := 0, slots := 0, locals := 65 }
def k_X11_readOf_61 (τ : gτ) (n : Nat) (x4 : Int32)  (G : gG) : Option (Int32 × gG) :=
  if x4 < 0 then (some (0, G))
  else (some (1, G))
def k_X11_readOf_42 (τ : gτ) (n : Nat) (x0 : Nat) (x1 : Int32) (x3 : Int32) (s0 : Int32) (G : gG) : Option (Int32 × gG) :=
  if s0 < 0 then (k_X11_readOf_61 τ n s0  G)
  else ((gr G 11 1 x0).bind fun a5 =>
  (f_X11_at x3 x1).bind fun v6 =>
  gchk (gIn v6 (gn τ a5)) <| gLet (gse G a5 (Int32.toNatClampNeg v6) s0) fun G7 =>
  k_X11_readOf_61 τ n s0  G7)
def f_X11_readOf (τ : gτ) (n : Nat) (x0 : Nat) (x1 : Int32) (x2 : Int32) (G : gG) : Option (Int32 × gG) :=
  (f_X11_ropes τ x0 G).bind fun v1 =>
  gBind2 (f_X11_number τ n x0 (0 : Int32) (v1 - (1 : Int32)) G) fun v2 G3 =>
  if v2 < 0 then (some (0, G3))
  else ((f_X11_isWhole τ x0 v2 G3).bind fun v4 =>
  if v4 = 0 then (some (0, G3))
  else (if x1 = (6 : Int32) then (k_X11_readOf_42 τ n x0 x1 v2 (1 : Int32) G3)
  else (gBind2 (f_X11_number τ n x0 (0 : Int32) x2 G3) fun v8 G9 =>
  k_X11_readOf_42 τ n x0 x1 v2 v8 G9)))
set_option maxHeartbeats 4000000 in
set_option maxRecDepth 100000 in
theorem w_X11_readOf_61 {X : gX} {τ : gτ} {p : Program} {l : Launch} {e : Env} {s : State} {m : MethodId} {args : Array Value} {below : List Frame} {meth : Method} {c : Code} (fx : gFx X p s m args meth c cX11_readOf 5 RX11) (n : Nat) (x4 : Int32)    (hr : meth.sig.returnType = (some .boolean)) {r : Int32} {G' : gG} {G : gG} {H : Heap} {locs : List Loc} {ls : Array Slot} (hw : gHw X τ G H locs) (hl : lv_has ls 5 [(4, .int x4)]) (hok : gOk (k_X11_readOf_61 τ n x4  G) (fun q => q = (r, G')))  : W p l e rm_X11_readOf s m args below meth c H locs 0 0 (MQ below (gQ X τ (some (.int r)) G') args s 0 0 (gFree X)) (F0 m 61 ls []) := by
  unfold k_X11_readOf_61 at hok
  refine lv_iload fx.1 fx.2.1 dX11_readOf_61 (lv_at hl 0 rfl) ?_
  refine g_if_lt (tgt := 70) fx dX11_readOf_63 (by decide) hok (fun hok => ?_) (fun hok => ?_)
  · refine lv_iconst (v := 0) fx.1 fx.2.1 dX11_readOf_70 (by decide) ?_
    cases gOk_some hok
    exact g_zret fx hw hr (by decide) dX11_readOf_71
  · refine lv_iconst (v := 1) fx.1 fx.2.1 dX11_readOf_66 (by decide) ?_
    refine lv_goto (tgt := 71) fx.1 fx.2.1 dX11_readOf_67 (by decide) ?_
    cases gOk_some hok
    exact g_zret fx hw hr (by decide) dX11_readOf_71
set_option maxHeartbeats 4000000 in
set_option maxRecDepth 100000 in
theorem w_X11_readOf_42 {X : gX} {τ : gτ} {p : Program} {l : Launch} {e : Env} {s : State} {m : MethodId} {args : Array Value} {below : List Frame} {meth : Method} {c : Code} (fx : gFx X p s m args meth c cX11_readOf 5 RX11) (n : Nat) (x0 : Nat) (x1 : Int32) (x3 : Int32) (s0 : Int32) (h0 : gK τ x0 11)  (hr : meth.sig.returnType = (some .boolean)) {r : Int32} {G' : gG} {G : gG} {H : Heap} {locs : List Loc} {ls : Array Slot} (hw : gHw X τ G H locs) (hl : lv_has ls 5 [(0, .ref x0), (1, .int x1), (3, .int x3)]) (hok : gOk (k_X11_readOf_42 τ n x0 x1 x3 s0 G) (fun q => q = (r, G')))  : W p l e rm_X11_readOf s m args below meth c H locs 0 0 (MQ below (gQ X τ (some (.int r)) G') args s 0 0 (gFree X)) (F0 m 42 ls [.int s0]) := by
  unfold k_X11_readOf_42 at hok
  refine lv_istore (lv' := [(4, .int s0), (0, .ref x0), (1, .int x1), (3, .int x3)]) fx.1 fx.2.1 dX11_readOf_42 hl (by decide) rfl (fun ls hl => ?_)
  refine lv_iload fx.1 fx.2.1 dX11_readOf_44 (lv_at hl 0 rfl) ?_
  refine g_if_lt (tgt := 61) fx dX11_readOf_46 (by decide) hok (fun hok => ?_) (fun hok => ?_)
  · exact w_X11_readOf_61 fx n s0    hr hw (lv_sub hl [0] rfl) hok
  · refine lv_aload_n fx.1 fx.2.1 dX11_readOf_49 rfl (lv_at hl 1 rfl) ?_
    refine g_getr fx hw h0 lf_RX11_13 rfl dX11_readOf_50 hok (fun a5 h_a5 hok => ?_)
    refine lv_iload_n fx.1 fx.2.1 dX11_readOf_53 rfl (lv_at hl 3 rfl) ?_
    refine lv_iload_n fx.1 fx.2.1 dX11_readOf_54 rfl (lv_at hl 2 rfl) ?_
    obtain ⟨v6, hf, hok⟩ := gOk_bind hok
    refine g_callS0 fx hw (c_X11_at l X τ x3 x1 G  hf) ls_RX11_59 ⟨rfl, rfl⟩ rfl hl.1 rfl ⟨Nat.le_of_ble_eq_true rfl, Nat.le_of_ble_eq_true rfl⟩ (Nat.le_of_ble_eq_true rfl) ⟨Nat.le_of_ble_eq_true rfl, Nat.le_of_ble_eq_true rfl⟩ dX11_readOf_55 (fun H locs hw => ?_)
    refine lv_iload fx.1 fx.2.1 dX11_readOf_58 (lv_at hl 0 rfl) ?_
    refine g_iast fx hw h_a5 dX11_readOf_60 hok (fun G7 H locs hw hok => ?_)
    exact w_X11_readOf_61 fx n s0    hr hw (lv_sub hl [0] rfl) hok
set_option maxHeartbeats 4000000 in
set_option maxRecDepth 100000 in
theorem c_X11_readOf (l : Launch) (X : gX) (τ : gτ) (n : Nat) (x0 : Nat) (x1 : Int32) (x2 : Int32) (G : gG) (h0 : gK τ x0 11) {r : Int32} {G' : gG} (h : f_X11_readOf τ n x0 x1 x2 G = some (r, G')) : gM l X τ yX11_readOf cX11_readOf 5 (some .boolean) rm_X11_readOf [.ref x0, .int x1, .int x2] G (some (.int r)) G' := by
  refine g_body (by decide +kernel) (Nat.le_of_ble_eq_true rfl) ?_
  intro p e s m args below meth c ls fx hr hw hl
  have fx : gFx X p s m args meth c cX11_readOf 5 RX11 := fx
  have hl : lv_has ls 5 [(0, .ref x0), (1, .int x1), (2, .int x2)] := hl
  have hok : gOk (f_X11_readOf τ n x0 x1 x2 G) (fun q => q = (r, G')) := ⟨_, h, rfl⟩
  unfold f_X11_readOf at hok
  show W p l e rm_X11_readOf s m args below meth c s.heap [] 0 0 (MQ below (gQ X τ (some (.int r)) G') args s 0 0 (gFree X)) _
  refine lv_aload_n fx.1 fx.2.1 dX11_readOf_0 rfl (lv_at hl 0 rfl) ?_
  refine lv_iconst (v := 0) fx.1 fx.2.1 dX11_readOf_1 (by decide) ?_
  refine lv_aload_n fx.1 fx.2.1 dX11_readOf_2 rfl (lv_at hl 0 rfl) ?_
  obtain ⟨v1, hf, hok⟩ := gOk_bind hok
  refine g_callV0 (κ := 11) fx hw (c_X11_ropes l X τ x0 G h0 hf) lv_RX11_73 ⟨rfl, rfl⟩ rfl rfl h0 rfl hl.1 rfl ⟨Nat.le_of_ble_eq_true rfl, Nat.le_of_ble_eq_true rfl⟩ (Nat.le_of_ble_eq_true rfl) ⟨Nat.le_of_ble_eq_true rfl, Nat.le_of_ble_eq_true rfl⟩ dX11_readOf_3 (fun H locs hw => ?_)
  refine lv_iconst (v := 1) fx.1 fx.2.1 dX11_readOf_6 (by decide) ?_
  refine lv_isub fx.1 fx.2.1 dX11_readOf_7 ?_
  obtain ⟨v2, G3, hf, hok⟩ := gOk_bind2 hok
  refine g_callV0 (κ := 11) fx hw (c_X11_number l X τ n x0 (0 : Int32) (v1 - (1 : Int32)) G h0 hf) lv_RX11_115 ⟨rfl, rfl⟩ rfl rfl h0 rfl hl.1 rfl ⟨Nat.le_of_ble_eq_true rfl, Nat.le_of_ble_eq_true rfl⟩ (Nat.le_of_ble_eq_true rfl) ⟨Nat.le_of_ble_eq_true rfl, Nat.le_of_ble_eq_true rfl⟩ dX11_readOf_8 (fun H locs hw => ?_)
  refine lv_istore_n (lv' := [(3, .int v2), (0, .ref x0), (1, .int x1), (2, .int x2)]) fx.1 fx.2.1 dX11_readOf_11 rfl hl (by decide) rfl (fun ls hl => ?_)
  refine lv_iload_n fx.1 fx.2.1 dX11_readOf_12 rfl (lv_at hl 0 rfl) ?_
  refine g_if_lt (tgt := 24) fx dX11_readOf_13 (by decide) hok (fun hok => ?_) (fun hok => ?_)
  · refine lv_iconst (v := 0) fx.1 fx.2.1 dX11_readOf_24 (by decide) ?_
    cases gOk_some hok
    exact g_zret fx hw hr (by decide) dX11_readOf_25
  · refine lv_aload_n fx.1 fx.2.1 dX11_readOf_16 rfl (lv_at hl 1 rfl) ?_
    refine lv_iload_n fx.1 fx.2.1 dX11_readOf_17 rfl (lv_at hl 0 rfl) ?_
    obtain ⟨v4, hf, hok⟩ := gOk_bind hok
    refine g_callV0 (κ := 11) fx hw (c_X11_isWhole l X τ x0 v2 G3 h0 hf) lv_RX11_146 ⟨rfl, rfl⟩ rfl rfl h0 rfl hl.1 rfl ⟨Nat.le_of_ble_eq_true rfl, Nat.le_of_ble_eq_true rfl⟩ (Nat.le_of_ble_eq_true rfl) ⟨Nat.le_of_ble_eq_true rfl, Nat.le_of_ble_eq_true rfl⟩ dX11_readOf_18 (fun H locs hw => ?_)
    refine g_if_ne (tgt := 26) fx dX11_readOf_21 (by decide) hok (fun hok => ?_) (fun hok => ?_)
    · refine lv_iconst (v := 0) fx.1 fx.2.1 dX11_readOf_24 (by decide) ?_
      cases gOk_some hok
      exact g_zret fx hw hr (by decide) dX11_readOf_25
    · refine lv_iload_n fx.1 fx.2.1 dX11_readOf_26 rfl (lv_at hl 2 rfl) ?_
      refine lv_bipush (v := 6) fx.1 fx.2.1 dX11_readOf_27 (by decide) ?_
      refine g_icmp_ne (tgt := 36) fx dX11_readOf_29 (by decide) hok (fun hok => ?_) (fun hok => ?_)
      · refine lv_iconst (v := 1) fx.1 fx.2.1 dX11_readOf_32 (by decide) ?_
        refine lv_goto (tgt := 42) fx.1 fx.2.1 dX11_readOf_33 (by decide) ?_
        exact w_X11_readOf_42 fx n x0 x1 v2 (1 : Int32) h0  hr hw (lv_sub hl [1, 2, 0] rfl) hok
      · refine lv_aload_n fx.1 fx.2.1 dX11_readOf_36 rfl (lv_at hl 1 rfl) ?_
        refine lv_iconst (v := 0) fx.1 fx.2.1 dX11_readOf_37 (by decide) ?_
        refine lv_iload_n fx.1 fx.2.1 dX11_readOf_38 rfl (lv_at hl 3 rfl) ?_
        obtain ⟨v8, G9, hf, hok⟩ := gOk_bind2 hok
        refine g_callV0 (κ := 11) fx hw (c_X11_number l X τ n x0 (0 : Int32) x2 G3 h0 hf) lv_RX11_115 ⟨rfl, rfl⟩ rfl rfl h0 rfl hl.1 rfl ⟨Nat.le_of_ble_eq_true rfl, Nat.le_of_ble_eq_true rfl⟩ (Nat.le_of_ble_eq_true rfl) ⟨Nat.le_of_ble_eq_true rfl, Nat.le_of_ble_eq_true rfl⟩ dX11_readOf_39 (fun H locs hw => ?_)
        exact w_X11_readOf_42 fx n x0 x1 v2 v8 h0  hr hw (lv_sub hl [1, 2, 0] rfl) hok
theorem dX11_readNumber_0 : decode cX11_readNumber 0 = .ok (.aload_n 0, 1) := by decide +kernel
theorem dX11_readNumber_1 : decode cX11_readNumber 1 = .ok (.iconst 0, 1) := by decide +kernel
theorem dX11_readNumber_2 : decode cX11_readNumber 2 = .ok (.bipush 100, 2) := by decide +kernel
theorem dX11_readNumber_4 : decode cX11_readNumber 4 = .ok (.invokevirtual 115, 3) := by decide +kernel
theorem dX11_readNumber_7 : decode cX11_readNumber 7 = .ok (.istore_n 2, 1) := by decide +kernel
theorem dX11_readNumber_8 : decode cX11_readNumber 8 = .ok (.aload_n 0, 1) := by decide +kernel
theorem dX11_readNumber_9 : decode cX11_readNumber 9 = .ok (.getfield 13, 3) := by decide +kernel
theorem dX11_readNumber_12 : decode cX11_readNumber 12 = .ok (.iload_n 1, 1) := by decide +kernel
theorem dX11_readNumber_13 : decode cX11_readNumber 13 = .ok (.iload_n 2, 1) := by decide +kernel
theorem dX11_readNumber_14 : decode cX11_readNumber 14 = .ok (.ifCond .ge 12, 3) := by decide +kernel
theorem dX11_readNumber_17 : decode cX11_readNumber 17 = .ok (.aload_n 0, 1) := by decide +kernel
theorem dX11_readNumber_18 : decode cX11_readNumber 18 = .ok (.getfield 13, 3) := by decide +kernel
theorem dX11_readNumber_21 : decode cX11_readNumber 21 = .ok (.iload_n 1, 1) := by decide +kernel
theorem dX11_readNumber_22 : decode cX11_readNumber 22 = .ok (.iaload, 1) := by decide +kernel
theorem dX11_readNumber_23 : decode cX11_readNumber 23 = .ok (.goto 4, 3) := by decide +kernel
theorem dX11_readNumber_26 : decode cX11_readNumber 26 = .ok (.iload_n 2, 1) := by decide +kernel
theorem dX11_readNumber_27 : decode cX11_readNumber 27 = .ok (.iastore, 1) := by decide +kernel
theorem dX11_readNumber_28 : decode cX11_readNumber 28 = .ok (.iload_n 2, 1) := by decide +kernel
theorem dX11_readNumber_29 : decode cX11_readNumber 29 = .ok (.ifCond .lt 7, 3) := by decide +kernel
theorem dX11_readNumber_32 : decode cX11_readNumber 32 = .ok (.iconst 1, 1) := by decide +kernel
theorem dX11_readNumber_33 : decode cX11_readNumber 33 = .ok (.goto 4, 3) := by decide +kernel
theorem dX11_readNumber_36 : decode cX11_readNumber 36 = .ok (.iconst 0, 1) := by decide +kernel
theorem dX11_readNumber_37 : decode cX11_readNumber 37 = .ok (.ireturn, 1) := by decide +kernel
def rm_X11_readNumber : Room := { frames := 3, cells := 0, slots := 0, locals := 65 }
def k_X11_readNumber_27 (τ : gτ) (n : Nat) (x2 : Int32) (s0 : Nat) (s1 : Int32) (s2 : Int32) (G : gG) : Option (Int32 × gG) :=
  gchk (gIn s1 (gn τ s0)) <| gLet (gse G s0 (Int32.toNatClampNeg s1) s2) fun G4 =>
  if x2 < 0 then (some (0, G4))
  else (some (1, G4))
def f_X11_readNumber (τ : gτ) (n : Nat) (x0 : Nat) (x1 : Int32) (G : gG) : Option (Int32 × gG) :=
  gBind2 (f_X11_number τ n x0 (0 : Int32) (100 : Int32) G) fun v1 G2 =>
  (gr G2 11 1 x0).bind fun a3 =>
  if 0 ≤ v1 then (k_X11_readNumber_27 τ n v1 a3 x1 v1 G2)
  else ((gr G2 11 1 x0).bind fun a5 =>
  gchk (gIn x1 (gn τ a5)) <|
  k_X11_readNumber_27 τ n v1 a3 x1 (ge G2 a5 (Int32.toNatClampNeg x1)) G2)
set_option maxHeartbeats 4000000 in
set_option maxRecDepth 100000 in
theorem w_X11_readNumber_27 {X : gX} {τ : gτ} {p : Program} {l : Launch} {e : Env} {s : State} {m : MethodId} {args : Array Value} {below : List Frame} {meth : Method} {c : Code} (fx : gFx X p s m args meth c cX11_readNumber 3 RX11) (n : Nat) (x2 : Int32) (s0 : Nat) (s1 : Int32) (s2 : Int32)  (hs0 : gK τ s0 13) (hr : meth.sig.returnType = (some .boolean)) {r : Int32} {G' : gG} {G : gG} {H : Heap} {locs : List Loc} {ls : Array Slot} (hw : gHw X τ G H locs) (hl : lv_has ls 3 [(2, .int x2)]) (hok : gOk (k_X11_readNumber_27 τ n x2 s0 s1 s2 G) (fun q => q = (r, G')))  : W p l e rm_X11_readNumber s m args below meth c H locs 0 0 (MQ below (gQ X τ (some (.int r)) G') args s 0 0 (gFree X)) (F0 m 27 ls [.int s2, .int s1, .ref s0]) := by
  unfold k_X11_readNumber_27 at hok
  refine g_iast fx hw hs0 dX11_readNumber_27 hok (fun G4 H locs hw hok => ?_)
  refine lv_iload_n fx.1 fx.2.1 dX11_readNumber_28 rfl (lv_at hl 0 rfl) ?_
  refine g_if_lt (tgt := 36) fx dX11_readNumber_29 (by decide) hok (fun hok => ?_) (fun hok => ?_)
  · refine lv_iconst (v := 0) fx.1 fx.2.1 dX11_readNumber_36 (by decide) ?_
    cases gOk_some hok
    exact g_zret fx hw hr (by decide) dX11_readNumber_37
  · refine lv_iconst (v := 1) fx.1 fx.2.1 dX11_readNumber_32 (by decide) ?_
    refine lv_goto (tgt := 37) fx.1 fx.2.1 dX11_readNumber_33 (by decide) ?_
    cases gOk_some hok
    exact g_zret fx hw hr (by decide) dX11_readNumber_37
set_option maxHeartbeats 4000000 in
set_option maxRecDepth 100000 in
theorem c_X11_readNumber (l : Launch) (X : gX) (τ : gτ) (n : Nat) (x0 : Nat) (x1 : Int32) (G : gG) (h0 : gK τ x0 11) {r : Int32} {G' : gG} (h : f_X11_readNumber τ n x0 x1 G = some (r, G')) : gM l X τ yX11_readNumber cX11_readNumber 3 (some .boolean) rm_X11_readNumber [.ref x0, .int x1] G (some (.int r)) G' := by
  refine g_body (by decide +kernel) (Nat.le_of_ble_eq_true rfl) ?_
  intro p e s m args below meth c ls fx hr hw hl
  have fx : gFx X p s m args meth c cX11_readNumber 3 RX11 := fx
  have hl : lv_has ls 3 [(0, .ref x0), (1, .int x1)] := hl
  have hok : gOk (f_X11_readNumber τ n x0 x1 G) (fun q => q = (r, G')) := ⟨_, h, rfl⟩
  unfold f_X11_readNumber at hok
  show W p l e rm_X11_readNumber s m args below meth c s.heap [] 0 0 (MQ below (gQ X τ (some (.int r)) G') args s 0 0 (gFree X)) _
  refine lv_aload_n fx.1 fx.2.1 dX11_readNumber_0 rfl (lv_at hl 0 rfl) ?_
  refine lv_iconst (v := 0) fx.1 fx.2.1 dX11_readNumber_1 (by decide) ?_
  refine lv_bipush (v := 100) fx.1 fx.2.1 dX11_readNumber_2 (by decide) ?_
  obtain ⟨v1, G2, hf, hok⟩ := gOk_bind2 hok
  refine g_callV0 (κ := 11) fx hw (c_X11_number l X τ n x0 (0 : Int32) (100 : Int32) G h0 hf) lv_RX11_115 ⟨rfl, rfl⟩ rfl rfl h0 rfl hl.1 rfl ⟨Nat.le_of_ble_eq_true rfl, Nat.le_of_ble_eq_true rfl⟩ (Nat.le_of_ble_eq_true rfl) ⟨Nat.le_of_ble_eq_true rfl, Nat.le_of_ble_eq_true rfl⟩ dX11_readNumber_4 (fun H locs hw => ?_)
  refine lv_istore_n (lv' := [(2, .int v1), (0, .ref x0), (1, .int x1)]) fx.1 fx.2.1 dX11_readNumber_7 rfl hl (by decide) rfl (fun ls hl => ?_)
  refine lv_aload_n fx.1 fx.2.1 dX11_readNumber_8 rfl (lv_at hl 1 rfl) ?_
  refine g_getr fx hw h0 lf_RX11_13 rfl dX11_readNumber_9 hok (fun a3 h_a3 hok => ?_)
  refine lv_iload_n fx.1 fx.2.1 dX11_readNumber_12 rfl (lv_at hl 2 rfl) ?_
  refine lv_iload_n fx.1 fx.2.1 dX11_readNumber_13 rfl (lv_at hl 0 rfl) ?_
  refine g_if_ge (tgt := 26) fx dX11_readNumber_14 (by decide) hok (fun hok => ?_) (fun hok => ?_)
  · refine lv_iload_n fx.1 fx.2.1 dX11_readNumber_26 rfl (lv_at hl 0 rfl) ?_
    exact w_X11_readNumber_27 fx n v1 a3 x1 v1  h_a3 hr hw (lv_sub hl [0] rfl) hok
  · refine lv_aload_n fx.1 fx.2.1 dX11_readNumber_17 rfl (lv_at hl 1 rfl) ?_
    refine g_getr fx hw h0 lf_RX11_13 rfl dX11_readNumber_18 hok (fun a5 h_a5 hok => ?_)
    refine lv_iload_n fx.1 fx.2.1 dX11_readNumber_21 rfl (lv_at hl 2 rfl) ?_
    refine g_iald fx hw h_a5 dX11_readNumber_22 hok (fun hok => ?_)
    refine lv_goto (tgt := 27) fx.1 fx.2.1 dX11_readNumber_23 (by decide) ?_
    exact w_X11_readNumber_27 fx n v1 a3 x1 (ge G2 a5 (Int32.toNatClampNeg x1))  h_a3 hr hw (lv_sub hl [0] rfl) hok
theorem dX11_readWalkLine_0 : decode cX11_readWalkLine 0 = .ok (.aload_n 0, 1) := by decide +kernel
theorem dX11_readWalkLine_1 : decode cX11_readWalkLine 1 = .ok (.ldc 150, 2) := by decide +kernel
theorem dX11_readWalkLine_3 : decode cX11_readWalkLine 3 = .ok (.invokevirtual 111, 3) := by decide +kernel
theorem dX11_readWalkLine_6 : decode cX11_readWalkLine 6 = .ok (.ifCond .eq 8, 3) := by decide +kernel
theorem dX11_readWalkLine_9 : decode cX11_readWalkLine 9 = .ok (.aload_n 0, 1) := by decide +kernel
theorem dX11_readWalkLine_10 : decode cX11_readWalkLine 10 = .ok (.invokevirtual 152, 3) := by decide +kernel
theorem dX11_readWalkLine_13 : decode cX11_readWalkLine 13 = .ok (.ireturn, 1) := by decide +kernel
theorem dX11_readWalkLine_14 : decode cX11_readWalkLine 14 = .ok (.aload_n 0, 1) := by decide +kernel
theorem dX11_readWalkLine_15 : decode cX11_readWalkLine 15 = .ok (.ldc 156, 2) := by decide +kernel
theorem dX11_readWalkLine_17 : decode cX11_readWalkLine 17 = .ok (.invokevirtual 111, 3) := by decide +kernel
theorem dX11_readWalkLine_20 : decode cX11_readWalkLine 20 = .ok (.ifCond .eq 8, 3) := by decide +kernel
theorem dX11_readWalkLine_23 : decode cX11_readWalkLine 23 = .ok (.aload_n 0, 1) := by decide +kernel
theorem dX11_readWalkLine_24 : decode cX11_readWalkLine 24 = .ok (.invokevirtual 158, 3) := by decide +kernel
theorem dX11_readWalkLine_27 : decode cX11_readWalkLine 27 = .ok (.ireturn, 1) := by decide +kernel
theorem dX11_readWalkLine_28 : decode cX11_readWalkLine 28 = .ok (.aload_n 0, 1) := by decide +kernel
theorem dX11_readWalkLine_29 : decode cX11_readWalkLine 29 = .ok (.ldc 161, 2) := by decide +kernel
theorem dX11_readWalkLine_31 : decode cX11_readWalkLine 31 = .ok (.invokevirtual 111, 3) := by decide +kernel
theorem dX11_readWalkLine_34 : decode cX11_readWalkLine 34 = .ok (.ifCond .eq 8, 3) := by decide +kernel
theorem dX11_readWalkLine_37 : decode cX11_readWalkLine 37 = .ok (.aload_n 0, 1) := by decide +kernel
theorem dX11_readWalkLine_38 : decode cX11_readWalkLine 38 = .ok (.invokevirtual 163, 3) := by decide +kernel
theorem dX11_readWalkLine_41 : decode cX11_readWalkLine 41 = .ok (.ireturn, 1) := by decide +kernel
theorem dX11_readWalkLine_42 : decode cX11_readWalkLine 42 = .ok (.aload_n 0, 1) := by decide +kernel
theorem dX11_readWalkLine_43 : decode cX11_readWalkLine 43 = .ok (.ldc 166, 2) := by decide +kernel
theorem dX11_readWalkLine_45 : decode cX11_readWalkLine 45 = .ok (.invokevirtual 111, 3) := by decide +kernel
theorem dX11_readWalkLine_48 : decode cX11_readWalkLine 48 = .ok (.ifCond .eq 13, 3) := by decide +kernel
theorem dX11_readWalkLine_51 : decode cX11_readWalkLine 51 = .ok (.aload_n 0, 1) := by decide +kernel
theorem dX11_readWalkLine_52 : decode cX11_readWalkLine 52 = .ok (.bipush 9, 2) := by decide +kernel
theorem dX11_readWalkLine_54 : decode cX11_readWalkLine 54 = .ok (.sipush 999, 3) := by decide +kernel
theorem dX11_readWalkLine_57 : decode cX11_readWalkLine 57 = .ok (.invokevirtual 168, 3) := by decide +kernel
theorem dX11_readWalkLine_60 : decode cX11_readWalkLine 60 = .ok (.ireturn, 1) := by decide +kernel
theorem dX11_readWalkLine_61 : decode cX11_readWalkLine 61 = .ok (.aload_n 0, 1) := by decide +kernel
theorem dX11_readWalkLine_62 : decode cX11_readWalkLine 62 = .ok (.ldc 171, 2) := by decide +kernel
theorem dX11_readWalkLine_64 : decode cX11_readWalkLine 64 = .ok (.invokevirtual 111, 3) := by decide +kernel
theorem dX11_readWalkLine_67 : decode cX11_readWalkLine 67 = .ok (.ifCond .eq 11, 3) := by decide +kernel
theorem dX11_readWalkLine_70 : decode cX11_readWalkLine 70 = .ok (.aload_n 0, 1) := by decide +kernel
theorem dX11_readWalkLine_71 : decode cX11_readWalkLine 71 = .ok (.iconst 4, 1) := by decide +kernel
theorem dX11_readWalkLine_72 : decode cX11_readWalkLine 72 = .ok (.bipush 9, 2) := by decide +kernel
theorem dX11_readWalkLine_74 : decode cX11_readWalkLine 74 = .ok (.invokevirtual 168, 3) := by decide +kernel
theorem dX11_readWalkLine_77 : decode cX11_readWalkLine 77 = .ok (.ireturn, 1) := by decide +kernel
theorem dX11_readWalkLine_78 : decode cX11_readWalkLine 78 = .ok (.aload_n 0, 1) := by decide +kernel
theorem dX11_readWalkLine_79 : decode cX11_readWalkLine 79 = .ok (.ldc 173, 2) := by decide +kernel
theorem dX11_readWalkLine_81 : decode cX11_readWalkLine 81 = .ok (.invokevirtual 111, 3) := by decide +kernel
theorem dX11_readWalkLine_84 : decode cX11_readWalkLine 84 = .ok (.ifCond .eq 11, 3) := by decide +kernel
theorem dX11_readWalkLine_87 : decode cX11_readWalkLine 87 = .ok (.aload_n 0, 1) := by decide +kernel
theorem dX11_readWalkLine_88 : decode cX11_readWalkLine 88 = .ok (.bipush 6, 2) := by decide +kernel
theorem dX11_readWalkLine_90 : decode cX11_readWalkLine 90 = .ok (.iconst 1, 1) := by decide +kernel
theorem dX11_readWalkLine_91 : decode cX11_readWalkLine 91 = .ok (.invokevirtual 168, 3) := by decide +kernel
theorem dX11_readWalkLine_94 : decode cX11_readWalkLine 94 = .ok (.ireturn, 1) := by decide +kernel
theorem dX11_readWalkLine_95 : decode cX11_readWalkLine 95 = .ok (.aload_n 0, 1) := by decide +kernel
theorem dX11_readWalkLine_96 : decode cX11_readWalkLine 96 = .ok (.ldc 175, 2) := by decide +kernel
theorem dX11_readWalkLine_98 : decode cX11_readWalkLine 98 = .ok (.invokevirtual 111, 3) := by decide +kernel
theorem dX11_readWalkLine_101 : decode cX11_readWalkLine 101 = .ok (.ifCond .eq 10, 3) := by decide +kernel
theorem dX11_readWalkLine_104 : decode cX11_readWalkLine 104 = .ok (.aload_n 0, 1) := by decide +kernel
theorem dX11_readWalkLine_105 : decode cX11_readWalkLine 105 = .ok (.bipush 6, 2) := by decide +kernel
theorem dX11_readWalkLine_107 : decode cX11_readWalkLine 107 = .ok (.invokevirtual 177, 3) := by decide +kernel
theorem dX11_readWalkLine_110 : decode cX11_readWalkLine 110 = .ok (.ireturn, 1) := by decide +kernel
theorem dX11_readWalkLine_111 : decode cX11_readWalkLine 111 = .ok (.aload_n 0, 1) := by decide +kernel
theorem dX11_readWalkLine_112 : decode cX11_readWalkLine 112 = .ok (.ldc 180, 2) := by decide +kernel
theorem dX11_readWalkLine_114 : decode cX11_readWalkLine 114 = .ok (.invokevirtual 111, 3) := by decide +kernel
theorem dX11_readWalkLine_117 : decode cX11_readWalkLine 117 = .ok (.ifCond .eq 16, 3) := by decide +kernel
theorem dX11_readWalkLine_120 : decode cX11_readWalkLine 120 = .ok (.aload_n 0, 1) := by decide +kernel
theorem dX11_readWalkLine_121 : decode cX11_readWalkLine 121 = .ok (.bipush 7, 2) := by decide +kernel
theorem dX11_readWalkLine_123 : decode cX11_readWalkLine 123 = .ok (.invokevirtual 177, 3) := by decide +kernel
theorem dX11_readWalkLine_126 : decode cX11_readWalkLine 126 = .ok (.ifCond .eq 7, 3) := by decide +kernel
theorem dX11_readWalkLine_129 : decode cX11_readWalkLine 129 = .ok (.iconst 1, 1) := by decide +kernel
theorem dX11_readWalkLine_130 : decode cX11_readWalkLine 130 = .ok (.goto 4, 3) := by decide +kernel
theorem dX11_readWalkLine_133 : decode cX11_readWalkLine 133 = .ok (.iconst 0, 1) := by decide +kernel
theorem dX11_readWalkLine_134 : decode cX11_readWalkLine 134 = .ok (.ireturn, 1) := by decide +kernel
theorem lv_RX11_177 : gLv RX11 177 RX11 yX11_readNumber cX11_readNumber 3 (some .boolean) 1 := gLv_of (wA_t (wt7 (List.mem_of_getElem? (i := 170) (by decide +kernel))) (by decide +kernel)) (wA_t (wt7 (List.mem_of_getElem? (i := 172) (by decide +kernel))) (by decide +kernel)) (wA_of (List.mem_append_left _ (List.mem_map.mpr ⟨(⟨"YearRopeModel", "readNumber", "(I)Z"⟩, 20), wp5 (List.mem_of_getElem? (i := 0) (by decide +kernel)), rfl⟩)) (by decide +kernel)) (wA_t (wt1 (List.mem_of_getElem? (i := 12) (by decide +kernel))) (by decide +kernel)) (wA_t (wt7 (List.mem_of_getElem? (i := 173) (by decide +kernel))) (by decide +kernel)) ⟨rfl, by decide +kernel, by decide +kernel, by decide +kernel⟩
theorem lv_RX11_168 : gLv RX11 168 RX11 yX11_readOf cX11_readOf 5 (some .boolean) 2 := gLv_of (wA_t (wt7 (List.mem_of_getElem? (i := 159) (by decide +kernel))) (by decide +kernel)) (wA_t (wt7 (List.mem_of_getElem? (i := 161) (by decide +kernel))) (by decide +kernel)) (wA_of (List.mem_append_left _ (List.mem_map.mpr ⟨(⟨"YearRopeModel", "readOf", "(II)Z"⟩, 20), wp4 (List.mem_of_getElem? (i := 14) (by decide +kernel)), rfl⟩)) (by decide +kernel)) (wA_t (wt1 (List.mem_of_getElem? (i := 12) (by decide +kernel))) (by decide +kernel)) (wA_t (wt7 (List.mem_of_getElem? (i := 162) (by decide +kernel))) (by decide +kernel)) ⟨rfl, by decide +kernel, by decide +kernel, by decide +kernel⟩
theorem lv_RX11_163 : gLv RX11 163 RX11 yX11_readOrder cX11_readOrder 5 (some .boolean) 0 := gLv_of (wA_t (wt7 (List.mem_of_getElem? (i := 149) (by decide +kernel))) (by decide +kernel)) (wA_t (wt7 (List.mem_of_getElem? (i := 151) (by decide +kernel))) (by decide +kernel)) (wA_of (List.mem_append_left _ (List.mem_map.mpr ⟨(⟨"YearRopeModel", "readOrder", "()Z"⟩, 20), wp4 (List.mem_of_getElem? (i := 12) (by decide +kernel)), rfl⟩)) (by decide +kernel)) (wA_t (wt1 (List.mem_of_getElem? (i := 12) (by decide +kernel))) (by decide +kernel)) (wA_t (wt7 (List.mem_of_getElem? (i := 152) (by decide +kernel))) (by decide +kernel)) ⟨rfl, by decide +kernel, by decide +kernel, by decide +kernel⟩
theorem lv_RX11_158 : gLv RX11 158 RX11 yX11_readRope cX11_readRope 6 (some .boolean) 0 := gLv_of (wA_t (wt7 (List.mem_of_getElem? (i := 120) (by decide +kernel))) (by decide +kernel)) (wA_t (wt7 (List.mem_of_getElem? (i := 122) (by decide +kernel))) (by decide +kernel)) (wA_of (List.mem_append_left _ (List.mem_map.mpr ⟨(⟨"YearRopeModel", "readRope", "()Z"⟩, 20), wp4 (List.mem_of_getElem? (i := 6) (by decide +kernel)), rfl⟩)) (by decide +kernel)) (wA_t (wt1 (List.mem_of_getElem? (i := 12) (by decide +kernel))) (by decide +kernel)) (wA_t (wt7 (List.mem_of_getElem? (i := 123) (by decide +kernel))) (by decide +kernel)) ⟨rfl, by decide +kernel, by decide +kernel, by decide +kernel⟩
theorem lv_RX11_152 : gLv RX11 152 RX11 yX11_readYarn cX11_readYarn 6 (some .boolean) 0 := gLv_of (wA_t (wt7 (List.mem_of_getElem? (i := 97) (by decide +kernel))) (by decide +kernel)) (wA_t (wt7 (List.mem_of_getElem? (i := 99) (by decide +kernel))) (by decide +kernel)) (wA_of (List.mem_append_left _ (List.mem_map.mpr ⟨(⟨"YearRopeModel", "readYarn", "()Z"⟩, 20), wp4 (List.mem_of_getElem? (i := 2) (by decide +kernel)), rfl⟩)) (by decide +kernel)) (wA_t (wt1 (List.mem_of_getElem? (i := 12) (by decide +kernel))) (by decide +kernel)) (wA_t (wt7 (List.mem_of_getElem? (i := 100) (by decide +kernel))) (by decide +kernel)) ⟨rfl, by decide +kernel, by decide +kernel, by decide +kernel⟩
def rm_X11_readWalkLine : Room := { frames := 7, cells := 0, slots := 0, locals := 231 }
def f_X11_readWalkLine (τ : gτ) (n : Nat) (x0 : Nat) (G : gG) : Option (Int32 × gG) :=
  (f_X11_isWord τ n x0 s_yarn G).bind fun v2 =>
  if v2 = 0 then ((f_X11_isWord τ n x0 s_rope G).bind fun v4 =>
  if v4 = 0 then ((f_X11_isWord τ n x0 s_order G).bind fun v6 =>
  if v6 = 0 then ((f_X11_isWord τ n x0 s_hang G).bind fun v8 =>
  if v8 = 0 then ((f_X11_isWord τ n x0 s_tar G).bind fun v10 =>
  if v10 = 0 then ((f_X11_isWord τ n x0 s_whip G).bind fun v12 =>
  if v12 = 0 then ((f_X11_isWord τ n x0 s_gale G).bind fun v14 =>
  if v14 = 0 then ((f_X11_isWord τ n x0 s_damp G).bind fun v16 =>
  if v16 = 0 then (some (0, G))
  else (gBind2 (f_X11_readNumber τ n x0 (7 : Int32) G) fun v17 G18 =>
  if v17 = 0 then (some (0, G18))
  else (some (1, G18))))
  else (gBind2 (f_X11_readNumber τ n x0 (6 : Int32) G) fun v19 G20 =>
  gchk (v19 = 0 ∨ v19 = 1) <| some (v19, G20)))
  else (gBind2 (f_X11_readOf τ n x0 (6 : Int32) (1 : Int32) G) fun v21 G22 =>
  gchk (v21 = 0 ∨ v21 = 1) <| some (v21, G22)))
  else (gBind2 (f_X11_readOf τ n x0 (4 : Int32) (9 : Int32) G) fun v23 G24 =>
  gchk (v23 = 0 ∨ v23 = 1) <| some (v23, G24)))
  else (gBind2 (f_X11_readOf τ n x0 (9 : Int32) (999 : Int32) G) fun v25 G26 =>
  gchk (v25 = 0 ∨ v25 = 1) <| some (v25, G26)))
  else (gBind2 (f_X11_readOrder τ n x0 G) fun v27 G28 =>
  gchk (v27 = 0 ∨ v27 = 1) <| some (v27, G28)))
  else (gBind2 (f_X11_readRope τ n x0 G) fun v29 G30 =>
  gchk (v29 = 0 ∨ v29 = 1) <| some (v29, G30)))
  else (gBind2 (f_X11_readYarn τ n x0 G) fun v31 G32 =>
  gchk (v31 = 0 ∨ v31 = 1) <| some (v31, G32))
set_option maxHeartbeats 4000000 in
set_option maxRecDepth 100000 in
theorem c_X11_readWalkLine (l : Launch) (X : gX) (τ : gτ) (n : Nat) (hS : gS0 l X) (x0 : Nat) (G : gG) (h0 : gK τ x0 11) {r : Int32} {G' : gG} (h : f_X11_readWalkLine τ n x0 G = some (r, G')) : gM l X τ yX11_readWalkLine cX11_readWalkLine 1 (some .boolean) rm_X11_readWalkLine [.ref x0] G (some (.int r)) G' := by
  refine g_body (by decide +kernel) (Nat.le_of_ble_eq_true rfl) ?_
  intro p e s m args below meth c ls fx hr hw hl
  have fx : gFx X p s m args meth c cX11_readWalkLine 1 RX11 := fx
  have hl : lv_has ls 1 [(0, .ref x0)] := hl
  have hok : gOk (f_X11_readWalkLine τ n x0 G) (fun q => q = (r, G')) := ⟨_, h, rfl⟩
  unfold f_X11_readWalkLine at hok
  show W p l e rm_X11_readWalkLine s m args below meth c s.heap [] 0 0 (MQ below (gQ X τ (some (.int r)) G') args s 0 0 (gFree X)) _
  refine lv_aload_n fx.1 fx.2.1 dX11_readWalkLine_0 rfl (lv_at hl 0 rfl) ?_
  refine g_ldcS fx hS gt_RX11_150 dX11_readWalkLine_1 (fun w1 h_w1 => ?_)
  obtain ⟨v2, hf, hok⟩ := gOk_bind hok
  refine g_callV0 (κ := 11) fx hw (c_X11_isWord l X τ n hS x0 s_yarn G h0 h_w1 hf) lv_RX11_111 ⟨rfl, rfl⟩ rfl rfl h0 rfl hl.1 rfl ⟨Nat.le_of_ble_eq_true rfl, Nat.le_of_ble_eq_true rfl⟩ (Nat.le_of_ble_eq_true rfl) ⟨Nat.le_of_ble_eq_true rfl, Nat.le_of_ble_eq_true rfl⟩ dX11_readWalkLine_3 (fun H locs hw => ?_)
  refine g_if_eq (tgt := 14) fx dX11_readWalkLine_6 (by decide) hok (fun hok => ?_) (fun hok => ?_)
  · refine lv_aload_n fx.1 fx.2.1 dX11_readWalkLine_14 rfl (lv_at hl 0 rfl) ?_
    refine g_ldcS fx hS gt_RX11_156 dX11_readWalkLine_15 (fun w3 h_w3 => ?_)
    obtain ⟨v4, hf, hok⟩ := gOk_bind hok
    refine g_callV0 (κ := 11) fx hw (c_X11_isWord l X τ n hS x0 s_rope G h0 h_w3 hf) lv_RX11_111 ⟨rfl, rfl⟩ rfl rfl h0 rfl hl.1 rfl ⟨Nat.le_of_ble_eq_true rfl, Nat.le_of_ble_eq_true rfl⟩ (Nat.le_of_ble_eq_true rfl) ⟨Nat.le_of_ble_eq_true rfl, Nat.le_of_ble_eq_true rfl⟩ dX11_readWalkLine_17 (fun H locs hw => ?_)
    refine g_if_eq (tgt := 28) fx dX11_readWalkLine_20 (by decide) hok (fun hok => ?_) (fun hok => ?_)
    · refine lv_aload_n fx.1 fx.2.1 dX11_readWalkLine_28 rfl (lv_at hl 0 rfl) ?_
      refine g_ldcS fx hS gt_RX11_161 dX11_readWalkLine_29 (fun w5 h_w5 => ?_)
      obtain ⟨v6, hf, hok⟩ := gOk_bind hok
      refine g_callV0 (κ := 11) fx hw (c_X11_isWord l X τ n hS x0 s_order G h0 h_w5 hf) lv_RX11_111 ⟨rfl, rfl⟩ rfl rfl h0 rfl hl.1 rfl ⟨Nat.le_of_ble_eq_true rfl, Nat.le_of_ble_eq_true rfl⟩ (Nat.le_of_ble_eq_true rfl) ⟨Nat.le_of_ble_eq_true rfl, Nat.le_of_ble_eq_true rfl⟩ dX11_readWalkLine_31 (fun H locs hw => ?_)
      refine g_if_eq (tgt := 42) fx dX11_readWalkLine_34 (by decide) hok (fun hok => ?_) (fun hok => ?_)
      · refine lv_aload_n fx.1 fx.2.1 dX11_readWalkLine_42 rfl (lv_at hl 0 rfl) ?_
        refine g_ldcS fx hS gt_RX11_166 dX11_readWalkLine_43 (fun w7 h_w7 => ?_)
        obtain ⟨v8, hf, hok⟩ := gOk_bind hok
        refine g_callV0 (κ := 11) fx hw (c_X11_isWord l X τ n hS x0 s_hang G h0 h_w7 hf) lv_RX11_111 ⟨rfl, rfl⟩ rfl rfl h0 rfl hl.1 rfl ⟨Nat.le_of_ble_eq_true rfl, Nat.le_of_ble_eq_true rfl⟩ (Nat.le_of_ble_eq_true rfl) ⟨Nat.le_of_ble_eq_true rfl, Nat.le_of_ble_eq_true rfl⟩ dX11_readWalkLine_45 (fun H locs hw => ?_)
        refine g_if_eq (tgt := 61) fx dX11_readWalkLine_48 (by decide) hok (fun hok => ?_) (fun hok => ?_)
        · refine lv_aload_n fx.1 fx.2.1 dX11_readWalkLine_61 rfl (lv_at hl 0 rfl) ?_
          refine g_ldcS fx hS gt_RX11_171 dX11_readWalkLine_62 (fun w9 h_w9 => ?_)
          obtain ⟨v10, hf, hok⟩ := gOk_bind hok
          refine g_callV0 (κ := 11) fx hw (c_X11_isWord l X τ n hS x0 s_tar G h0 h_w9 hf) lv_RX11_111 ⟨rfl, rfl⟩ rfl rfl h0 rfl hl.1 rfl ⟨Nat.le_of_ble_eq_true rfl, Nat.le_of_ble_eq_true rfl⟩ (Nat.le_of_ble_eq_true rfl) ⟨Nat.le_of_ble_eq_true rfl, Nat.le_of_ble_eq_true rfl⟩ dX11_readWalkLine_64 (fun H locs hw => ?_)
          refine g_if_eq (tgt := 78) fx dX11_readWalkLine_67 (by decide) hok (fun hok => ?_) (fun hok => ?_)
          · refine lv_aload_n fx.1 fx.2.1 dX11_readWalkLine_78 rfl (lv_at hl 0 rfl) ?_
            refine g_ldcS fx hS gt_RX11_173 dX11_readWalkLine_79 (fun w11 h_w11 => ?_)
            obtain ⟨v12, hf, hok⟩ := gOk_bind hok
            refine g_callV0 (κ := 11) fx hw (c_X11_isWord l X τ n hS x0 s_whip G h0 h_w11 hf) lv_RX11_111 ⟨rfl, rfl⟩ rfl rfl h0 rfl hl.1 rfl ⟨Nat.le_of_ble_eq_true rfl, Nat.le_of_ble_eq_true rfl⟩ (Nat.le_of_ble_eq_true rfl) ⟨Nat.le_of_ble_eq_true rfl, Nat.le_of_ble_eq_true rfl⟩ dX11_readWalkLine_81 (fun H locs hw => ?_)
            refine g_if_eq (tgt := 95) fx dX11_readWalkLine_84 (by decide) hok (fun hok => ?_) (fun hok => ?_)
            · refine lv_aload_n fx.1 fx.2.1 dX11_readWalkLine_95 rfl (lv_at hl 0 rfl) ?_
              refine g_ldcS fx hS gt_RX11_175 dX11_readWalkLine_96 (fun w13 h_w13 => ?_)
              obtain ⟨v14, hf, hok⟩ := gOk_bind hok
              refine g_callV0 (κ := 11) fx hw (c_X11_isWord l X τ n hS x0 s_gale G h0 h_w13 hf) lv_RX11_111 ⟨rfl, rfl⟩ rfl rfl h0 rfl hl.1 rfl ⟨Nat.le_of_ble_eq_true rfl, Nat.le_of_ble_eq_true rfl⟩ (Nat.le_of_ble_eq_true rfl) ⟨Nat.le_of_ble_eq_true rfl, Nat.le_of_ble_eq_true rfl⟩ dX11_readWalkLine_98 (fun H locs hw => ?_)
              refine g_if_eq (tgt := 111) fx dX11_readWalkLine_101 (by decide) hok (fun hok => ?_) (fun hok => ?_)
              · refine lv_aload_n fx.1 fx.2.1 dX11_readWalkLine_111 rfl (lv_at hl 0 rfl) ?_
                refine g_ldcS fx hS gt_RX11_180 dX11_readWalkLine_112 (fun w15 h_w15 => ?_)
                obtain ⟨v16, hf, hok⟩ := gOk_bind hok
                refine g_callV0 (κ := 11) fx hw (c_X11_isWord l X τ n hS x0 s_damp G h0 h_w15 hf) lv_RX11_111 ⟨rfl, rfl⟩ rfl rfl h0 rfl hl.1 rfl ⟨Nat.le_of_ble_eq_true rfl, Nat.le_of_ble_eq_true rfl⟩ (Nat.le_of_ble_eq_true rfl) ⟨Nat.le_of_ble_eq_true rfl, Nat.le_of_ble_eq_true rfl⟩ dX11_readWalkLine_114 (fun H locs hw => ?_)
                refine g_if_eq (tgt := 133) fx dX11_readWalkLine_117 (by decide) hok (fun hok => ?_) (fun hok => ?_)
                · refine lv_iconst (v := 0) fx.1 fx.2.1 dX11_readWalkLine_133 (by decide) ?_
                  cases gOk_some hok
                  exact g_zret fx hw hr (by decide) dX11_readWalkLine_134
                · refine lv_aload_n fx.1 fx.2.1 dX11_readWalkLine_120 rfl (lv_at hl 0 rfl) ?_
                  refine lv_bipush (v := 7) fx.1 fx.2.1 dX11_readWalkLine_121 (by decide) ?_
                  obtain ⟨v17, G18, hf, hok⟩ := gOk_bind2 hok
                  refine g_callV0 (κ := 11) fx hw (c_X11_readNumber l X τ n x0 (7 : Int32) G h0 hf) lv_RX11_177 ⟨rfl, rfl⟩ rfl rfl h0 rfl hl.1 rfl ⟨Nat.le_of_ble_eq_true rfl, Nat.le_of_ble_eq_true rfl⟩ (Nat.le_of_ble_eq_true rfl) ⟨Nat.le_of_ble_eq_true rfl, Nat.le_of_ble_eq_true rfl⟩ dX11_readWalkLine_123 (fun H locs hw => ?_)
                  refine g_if_eq (tgt := 133) fx dX11_readWalkLine_126 (by decide) hok (fun hok => ?_) (fun hok => ?_)
                  · refine lv_iconst (v := 0) fx.1 fx.2.1 dX11_readWalkLine_133 (by decide) ?_
                    cases gOk_some hok
                    exact g_zret fx hw hr (by decide) dX11_readWalkLine_134
                  · refine lv_iconst (v := 1) fx.1 fx.2.1 dX11_readWalkLine_129 (by decide) ?_
                    refine lv_goto (tgt := 134) fx.1 fx.2.1 dX11_readWalkLine_130 (by decide) ?_
                    cases gOk_some hok
                    exact g_zret fx hw hr (by decide) dX11_readWalkLine_134
              · refine lv_aload_n fx.1 fx.2.1 dX11_readWalkLine_104 rfl (lv_at hl 0 rfl) ?_
                refine lv_bipush (v := 6) fx.1 fx.2.1 dX11_readWalkLine_105 (by decide) ?_
                obtain ⟨v19, G20, hf, hok⟩ := gOk_bind2 hok
                refine g_callV0 (κ := 11) fx hw (c_X11_readNumber l X τ n x0 (6 : Int32) G h0 hf) lv_RX11_177 ⟨rfl, rfl⟩ rfl rfl h0 rfl hl.1 rfl ⟨Nat.le_of_ble_eq_true rfl, Nat.le_of_ble_eq_true rfl⟩ (Nat.le_of_ble_eq_true rfl) ⟨Nat.le_of_ble_eq_true rfl, Nat.le_of_ble_eq_true rfl⟩ dX11_readWalkLine_107 (fun H locs hw => ?_)
                obtain ⟨hz, hok⟩ := gOk_chk hok
                cases gOk_some hok
                exact g_zret fx hw hr hz dX11_readWalkLine_110
            · refine lv_aload_n fx.1 fx.2.1 dX11_readWalkLine_87 rfl (lv_at hl 0 rfl) ?_
              refine lv_bipush (v := 6) fx.1 fx.2.1 dX11_readWalkLine_88 (by decide) ?_
              refine lv_iconst (v := 1) fx.1 fx.2.1 dX11_readWalkLine_90 (by decide) ?_
              obtain ⟨v21, G22, hf, hok⟩ := gOk_bind2 hok
              refine g_callV0 (κ := 11) fx hw (c_X11_readOf l X τ n x0 (6 : Int32) (1 : Int32) G h0 hf) lv_RX11_168 ⟨rfl, rfl⟩ rfl rfl h0 rfl hl.1 rfl ⟨Nat.le_of_ble_eq_true rfl, Nat.le_of_ble_eq_true rfl⟩ (Nat.le_of_ble_eq_true rfl) ⟨Nat.le_of_ble_eq_true rfl, Nat.le_of_ble_eq_true rfl⟩ dX11_readWalkLine_91 (fun H locs hw => ?_)
              obtain ⟨hz, hok⟩ := gOk_chk hok
              cases gOk_some hok
              exact g_zret fx hw hr hz dX11_readWalkLine_94
          · refine lv_aload_n fx.1 fx.2.1 dX11_readWalkLine_70 rfl (lv_at hl 0 rfl) ?_
            refine lv_iconst (v := 4) fx.1 fx.2.1 dX11_readWalkLine_71 (by decide) ?_
            refine lv_bipush (v := 9) fx.1 fx.2.1 dX11_readWalkLine_72 (by decide) ?_
            obtain ⟨v23, G24, hf, hok⟩ := gOk_bind2 hok
            refine g_callV0 (κ := 11) fx hw (c_X11_readOf l X τ n x0 (4 : Int32) (9 : Int32) G h0 hf) lv_RX11_168 ⟨rfl, rfl⟩ rfl rfl h0 rfl hl.1 rfl ⟨Nat.le_of_ble_eq_true rfl, Nat.le_of_ble_eq_true rfl⟩ (Nat.le_of_ble_eq_true rfl) ⟨Nat.le_of_ble_eq_true rfl, Nat.le_of_ble_eq_true rfl⟩ dX11_readWalkLine_74 (fun H locs hw => ?_)
            obtain ⟨hz, hok⟩ := gOk_chk hok
            cases gOk_some hok
            exact g_zret fx hw hr hz dX11_readWalkLine_77
        · refine lv_aload_n fx.1 fx.2.1 dX11_readWalkLine_51 rfl (lv_at hl 0 rfl) ?_
          refine lv_bipush (v := 9) fx.1 fx.2.1 dX11_readWalkLine_52 (by decide) ?_
          refine lv_sipush (v := 999) fx.1 fx.2.1 dX11_readWalkLine_54 (by decide) ?_
          obtain ⟨v25, G26, hf, hok⟩ := gOk_bind2 hok
          refine g_callV0 (κ := 11) fx hw (c_X11_readOf l X τ n x0 (9 : Int32) (999 : Int32) G h0 hf) lv_RX11_168 ⟨rfl, rfl⟩ rfl rfl h0 rfl hl.1 rfl ⟨Nat.le_of_ble_eq_true rfl, Nat.le_of_ble_eq_true rfl⟩ (Nat.le_of_ble_eq_true rfl) ⟨Nat.le_of_ble_eq_true rfl, Nat.le_of_ble_eq_true rfl⟩ dX11_readWalkLine_57 (fun H locs hw => ?_)
          obtain ⟨hz, hok⟩ := gOk_chk hok
          cases gOk_some hok
          exact g_zret fx hw hr hz dX11_readWalkLine_60
      · refine lv_aload_n fx.1 fx.2.1 dX11_readWalkLine_37 rfl (lv_at hl 0 rfl) ?_
        obtain ⟨v27, G28, hf, hok⟩ := gOk_bind2 hok
        refine g_callV0 (κ := 11) fx hw (c_X11_readOrder l X τ n hS x0 G h0 hf) lv_RX11_163 ⟨rfl, rfl⟩ rfl rfl h0 rfl hl.1 rfl ⟨Nat.le_of_ble_eq_true rfl, Nat.le_of_ble_eq_true rfl⟩ (Nat.le_of_ble_eq_true rfl) ⟨Nat.le_of_ble_eq_true rfl, Nat.le_of_ble_eq_true rfl⟩ dX11_readWalkLine_38 (fun H locs hw => ?_)
        obtain ⟨hz, hok⟩ := gOk_chk hok
        cases gOk_some hok
        exact g_zret fx hw hr hz dX11_readWalkLine_41
    · refine lv_aload_n fx.1 fx.2.1 dX11_readWalkLine_23 rfl (lv_at hl 0 rfl) ?_
      obtain ⟨v29, G30, hf, hok⟩ := gOk_bind2 hok
      refine g_callV0 (κ := 11) fx hw (c_X11_readRope l X τ n hS x0 G h0 hf) lv_RX11_158 ⟨rfl, rfl⟩ rfl rfl h0 rfl hl.1 rfl ⟨Nat.le_of_ble_eq_true rfl, Nat.le_of_ble_eq_true rfl⟩ (Nat.le_of_ble_eq_true rfl) ⟨Nat.le_of_ble_eq_true rfl, Nat.le_of_ble_eq_true rfl⟩ dX11_readWalkLine_24 (fun H locs hw => ?_)
      obtain ⟨hz, hok⟩ := gOk_chk hok
      cases gOk_some hok
      exact g_zret fx hw hr hz dX11_readWalkLine_27
  · refine lv_aload_n fx.1 fx.2.1 dX11_readWalkLine_9 rfl (lv_at hl 0 rfl) ?_
    obtain ⟨v31, G32, hf, hok⟩ := gOk_bind2 hok
    refine g_callV0 (κ := 11) fx hw (c_X11_readYarn l X τ n hS x0 G h0 hf) lv_RX11_152 ⟨rfl, rfl⟩ rfl rfl h0 rfl hl.1 rfl ⟨Nat.le_of_ble_eq_true rfl, Nat.le_of_ble_eq_true rfl⟩ (Nat.le_of_ble_eq_true rfl) ⟨Nat.le_of_ble_eq_true rfl, Nat.le_of_ble_eq_true rfl⟩ dX11_readWalkLine_10 (fun H locs hw => ?_)
    obtain ⟨hz, hok⟩ := gOk_chk hok
    cases gOk_some hok
    exact g_zret fx hw hr hz dX11_readWalkLine_13
theorem dX11_emits_0 : decode cX11_emits 0 = .ok (.aload_n 0, 1) := by decide +kernel
theorem dX11_emits_1 : decode cX11_emits 1 = .ok (.getfield 13, 3) := by decide +kernel
theorem dX11_emits_4 : decode cX11_emits 4 = .ok (.sipush 1365, 3) := by decide +kernel
theorem dX11_emits_7 : decode cX11_emits 7 = .ok (.iconst 2, 1) := by decide +kernel
theorem dX11_emits_8 : decode cX11_emits 8 = .ok (.aload_n 0, 1) := by decide +kernel
theorem dX11_emits_9 : decode cX11_emits 9 = .ok (.getfield 182, 3) := by decide +kernel
theorem dX11_emits_12 : decode cX11_emits 12 = .ok (.imul, 1) := by decide +kernel
theorem dX11_emits_13 : decode cX11_emits 13 = .ok (.iadd, 1) := by decide +kernel
theorem dX11_emits_14 : decode cX11_emits 14 = .ok (.iload_n 1, 1) := by decide +kernel
theorem dX11_emits_15 : decode cX11_emits 15 = .ok (.iastore, 1) := by decide +kernel
theorem dX11_emits_16 : decode cX11_emits 16 = .ok (.aload_n 0, 1) := by decide +kernel
theorem dX11_emits_17 : decode cX11_emits 17 = .ok (.getfield 13, 3) := by decide +kernel
theorem dX11_emits_20 : decode cX11_emits 20 = .ok (.sipush 1365, 3) := by decide +kernel
theorem dX11_emits_23 : decode cX11_emits 23 = .ok (.iconst 2, 1) := by decide +kernel
theorem dX11_emits_24 : decode cX11_emits 24 = .ok (.aload_n 0, 1) := by decide +kernel
theorem dX11_emits_25 : decode cX11_emits 25 = .ok (.getfield 182, 3) := by decide +kernel
theorem dX11_emits_28 : decode cX11_emits 28 = .ok (.imul, 1) := by decide +kernel
theorem dX11_emits_29 : decode cX11_emits 29 = .ok (.iadd, 1) := by decide +kernel
theorem dX11_emits_30 : decode cX11_emits 30 = .ok (.iconst 1, 1) := by decide +kernel
theorem dX11_emits_31 : decode cX11_emits 31 = .ok (.iadd, 1) := by decide +kernel
theorem dX11_emits_32 : decode cX11_emits 32 = .ok (.iload_n 2, 1) := by decide +kernel
theorem dX11_emits_33 : decode cX11_emits 33 = .ok (.iastore, 1) := by decide +kernel
theorem dX11_emits_34 : decode cX11_emits 34 = .ok (.aload_n 0, 1) := by decide +kernel
theorem dX11_emits_35 : decode cX11_emits 35 = .ok (.dup, 1) := by decide +kernel
theorem dX11_emits_36 : decode cX11_emits 36 = .ok (.getfield 182, 3) := by decide +kernel
theorem dX11_emits_39 : decode cX11_emits 39 = .ok (.iconst 1, 1) := by decide +kernel
theorem dX11_emits_40 : decode cX11_emits 40 = .ok (.iadd, 1) := by decide +kernel
theorem dX11_emits_41 : decode cX11_emits 41 = .ok (.putfield 182, 3) := by decide +kernel
theorem dX11_emits_44 : decode cX11_emits 44 = .ok (.return_, 1) := by decide +kernel
theorem lf_RX11_182 : gLf RX11 182 11 16 := ⟨(RX11, TX11, 20), rfl, by decide, wA_t (wt6 (List.mem_of_getElem? (i := 229) (by decide +kernel))) (by decide +kernel), rfl⟩
theorem lp_RX11_182 : gLp RX11 182 11 16 := ⟨(RX11, TX11, 20), rfl, by decide, wA_t (wt6 (List.mem_of_getElem? (i := 229) (by decide +kernel))) (by decide +kernel), rfl, rfl⟩
def rm_X11_emits : Room := { frames := 0, cells := 0, slots := 0, locals := 0 }
def f_X11_emits (τ : gτ) (x0 : Nat) (x1 : Int32) (x2 : Int32) (G : gG) : Option (gG) :=
  (gr G 11 1 x0).bind fun a1 =>
  gchk (gIn ((1365 : Int32) + ((2 : Int32) * (gi G 11 16 x0))) (gn τ a1)) <| gLet (gse G a1 (Int32.toNatClampNeg ((1365 : Int32) + ((2 : Int32) * (gi G 11 16 x0)))) x1) fun G2 =>
  (gr G2 11 1 x0).bind fun a3 =>
  gchk (gIn (((1365 : Int32) + ((2 : Int32) * (gi G2 11 16 x0))) + (1 : Int32)) (gn τ a3)) <| gLet (gse G2 a3 (Int32.toNatClampNeg (((1365 : Int32) + ((2 : Int32) * (gi G2 11 16 x0))) + (1 : Int32))) x2) fun G4 =>
  gLet (gsi G4 11 16 x0 ((gi G4 11 16 x0) + (1 : Int32))) fun G5 =>
  some G5
set_option maxHeartbeats 4000000 in
set_option maxRecDepth 100000 in
theorem c_X11_emits (l : Launch) (X : gX) (τ : gτ) (x0 : Nat) (x1 : Int32) (x2 : Int32) (G : gG) (h0 : gK τ x0 11) {G' : gG} (h : f_X11_emits τ x0 x1 x2 G = some G') : gM l X τ yX11_emits cX11_emits 3 none rm_X11_emits [.ref x0, .int x1, .int x2] G none G' := by
  refine g_body (by decide +kernel) (Nat.le_of_ble_eq_true rfl) ?_
  intro p e s m args below meth c ls fx hr hw hl
  have fx : gFx X p s m args meth c cX11_emits 3 RX11 := fx
  have hl : lv_has ls 3 [(0, .ref x0), (1, .int x1), (2, .int x2)] := hl
  have hok : gOk (f_X11_emits τ x0 x1 x2 G) (fun q => q = G') := ⟨_, h, rfl⟩
  unfold f_X11_emits at hok
  show W p l e rm_X11_emits s m args below meth c s.heap [] 0 0 (MQ below (gQ X τ none G') args s 0 0 (gFree X)) _
  refine lv_aload_n fx.1 fx.2.1 dX11_emits_0 rfl (lv_at hl 0 rfl) ?_
  refine g_getr fx hw h0 lf_RX11_13 rfl dX11_emits_1 hok (fun a1 h_a1 hok => ?_)
  refine lv_sipush (v := 1365) fx.1 fx.2.1 dX11_emits_4 (by decide) ?_
  refine lv_iconst (v := 2) fx.1 fx.2.1 dX11_emits_7 (by decide) ?_
  refine lv_aload_n fx.1 fx.2.1 dX11_emits_8 rfl (lv_at hl 0 rfl) ?_
  refine g_geti fx hw h0 lf_RX11_182 rfl dX11_emits_9 ?_
  refine lv_imul fx.1 fx.2.1 dX11_emits_12 ?_
  refine lv_iadd fx.1 fx.2.1 dX11_emits_13 ?_
  refine lv_iload_n fx.1 fx.2.1 dX11_emits_14 rfl (lv_at hl 1 rfl) ?_
  refine g_iast fx hw h_a1 dX11_emits_15 hok (fun G2 H locs hw hok => ?_)
  refine lv_aload_n fx.1 fx.2.1 dX11_emits_16 rfl (lv_at hl 0 rfl) ?_
  refine g_getr fx hw h0 lf_RX11_13 rfl dX11_emits_17 hok (fun a3 h_a3 hok => ?_)
  refine lv_sipush (v := 1365) fx.1 fx.2.1 dX11_emits_20 (by decide) ?_
  refine lv_iconst (v := 2) fx.1 fx.2.1 dX11_emits_23 (by decide) ?_
  refine lv_aload_n fx.1 fx.2.1 dX11_emits_24 rfl (lv_at hl 0 rfl) ?_
  refine g_geti fx hw h0 lf_RX11_182 rfl dX11_emits_25 ?_
  refine lv_imul fx.1 fx.2.1 dX11_emits_28 ?_
  refine lv_iadd fx.1 fx.2.1 dX11_emits_29 ?_
  refine lv_iconst (v := 1) fx.1 fx.2.1 dX11_emits_30 (by decide) ?_
  refine lv_iadd fx.1 fx.2.1 dX11_emits_31 ?_
  refine lv_iload_n fx.1 fx.2.1 dX11_emits_32 rfl (lv_at hl 2 rfl) ?_
  refine g_iast fx hw h_a3 dX11_emits_33 hok (fun G4 H locs hw hok => ?_)
  refine lv_aload_n fx.1 fx.2.1 dX11_emits_34 rfl (lv_at hl 0 rfl) ?_
  refine lv_dup fx.1 fx.2.1 dX11_emits_35 rfl ?_
  refine g_geti fx hw h0 lf_RX11_182 rfl dX11_emits_36 ?_
  refine lv_iconst (v := 1) fx.1 fx.2.1 dX11_emits_39 (by decide) ?_
  refine lv_iadd fx.1 fx.2.1 dX11_emits_40 ?_
  refine g_puti fx hw h0 lp_RX11_182 rfl rfl dX11_emits_41 hok (fun G5 H locs hw hok => ?_)
  cases gOk_some hok
  exact g_vret fx hw hr dX11_emits_44
theorem dX11_readPart_0 : decode cX11_readPart 0 = .ok (.aload_n 0, 1) := by decide +kernel
theorem dX11_readPart_1 : decode cX11_readPart 1 = .ok (.invokevirtual 108, 3) := by decide +kernel
theorem dX11_readPart_4 : decode cX11_readPart 4 = .ok (.aload_n 0, 1) := by decide +kernel
theorem dX11_readPart_5 : decode cX11_readPart 5 = .ok (.getfield 83, 3) := by decide +kernel
theorem dX11_readPart_8 : decode cX11_readPart 8 = .ok (.aload_n 0, 1) := by decide +kernel
theorem dX11_readPart_9 : decode cX11_readPart 9 = .ok (.getfield 93, 3) := by decide +kernel
theorem dX11_readPart_12 : decode cX11_readPart 12 = .ok (.if_icmp .ne 22, 3) := by decide +kernel
theorem dX11_readPart_15 : decode cX11_readPart 15 = .ok (.aload_n 0, 1) := by decide +kernel
theorem dX11_readPart_16 : decode cX11_readPart 16 = .ok (.iconst 0, 1) := by decide +kernel
theorem dX11_readPart_17 : decode cX11_readPart 17 = .ok (.sipush 999, 3) := by decide +kernel
theorem dX11_readPart_20 : decode cX11_readPart 20 = .ok (.invokevirtual 115, 3) := by decide +kernel
theorem dX11_readPart_23 : decode cX11_readPart 23 = .ok (.istore_n 1, 1) := by decide +kernel
theorem dX11_readPart_24 : decode cX11_readPart 24 = .ok (.aload_n 0, 1) := by decide +kernel
theorem dX11_readPart_25 : decode cX11_readPart 25 = .ok (.bipush 11, 2) := by decide +kernel
theorem dX11_readPart_27 : decode cX11_readPart 27 = .ok (.iload_n 1, 1) := by decide +kernel
theorem dX11_readPart_28 : decode cX11_readPart 28 = .ok (.invokevirtual 185, 3) := by decide +kernel
theorem dX11_readPart_31 : decode cX11_readPart 31 = .ok (.goto 131, 3) := by decide +kernel
theorem dX11_readPart_34 : decode cX11_readPart 34 = .ok (.aload_n 0, 1) := by decide +kernel
theorem dX11_readPart_35 : decode cX11_readPart 35 = .ok (.ldc 189, 2) := by decide +kernel
theorem dX11_readPart_37 : decode cX11_readPart 37 = .ok (.invokevirtual 111, 3) := by decide +kernel
theorem dX11_readPart_40 : decode cX11_readPart 40 = .ok (.ifCond .eq 7, 3) := by decide +kernel
theorem dX11_readPart_43 : decode cX11_readPart 43 = .ok (.iconst 0, 1) := by decide +kernel
theorem dX11_readPart_44 : decode cX11_readPart 44 = .ok (.goto 111, 3) := by decide +kernel
theorem dX11_readPart_47 : decode cX11_readPart 47 = .ok (.aload_n 0, 1) := by decide +kernel
theorem dX11_readPart_48 : decode cX11_readPart 48 = .ok (.ldc 191, 2) := by decide +kernel
theorem dX11_readPart_50 : decode cX11_readPart 50 = .ok (.invokevirtual 111, 3) := by decide +kernel
theorem dX11_readPart_53 : decode cX11_readPart 53 = .ok (.ifCond .eq 7, 3) := by decide +kernel
theorem dX11_readPart_56 : decode cX11_readPart 56 = .ok (.iconst 1, 1) := by decide +kernel
theorem dX11_readPart_57 : decode cX11_readPart 57 = .ok (.goto 98, 3) := by decide +kernel
theorem dX11_readPart_60 : decode cX11_readPart 60 = .ok (.aload_n 0, 1) := by decide +kernel
theorem dX11_readPart_61 : decode cX11_readPart 61 = .ok (.ldc 124, 2) := by decide +kernel
theorem dX11_readPart_63 : decode cX11_readPart 63 = .ok (.invokevirtual 111, 3) := by decide +kernel
theorem dX11_readPart_66 : decode cX11_readPart 66 = .ok (.ifCond .eq 7, 3) := by decide +kernel
theorem dX11_readPart_69 : decode cX11_readPart 69 = .ok (.iconst 2, 1) := by decide +kernel
theorem dX11_readPart_70 : decode cX11_readPart 70 = .ok (.goto 85, 3) := by decide +kernel
theorem dX11_readPart_73 : decode cX11_readPart 73 = .ok (.aload_n 0, 1) := by decide +kernel
theorem dX11_readPart_74 : decode cX11_readPart 74 = .ok (.ldc 193, 2) := by decide +kernel
theorem dX11_readPart_76 : decode cX11_readPart 76 = .ok (.invokevirtual 111, 3) := by decide +kernel
theorem dX11_readPart_79 : decode cX11_readPart 79 = .ok (.ifCond .eq 7, 3) := by decide +kernel
theorem dX11_readPart_82 : decode cX11_readPart 82 = .ok (.iconst 3, 1) := by decide +kernel
theorem dX11_readPart_83 : decode cX11_readPart 83 = .ok (.goto 72, 3) := by decide +kernel
theorem dX11_readPart_86 : decode cX11_readPart 86 = .ok (.aload_n 0, 1) := by decide +kernel
theorem dX11_readPart_87 : decode cX11_readPart 87 = .ok (.ldc 171, 2) := by decide +kernel
theorem dX11_readPart_89 : decode cX11_readPart 89 = .ok (.invokevirtual 111, 3) := by decide +kernel
theorem dX11_readPart_92 : decode cX11_readPart 92 = .ok (.ifCond .eq 7, 3) := by decide +kernel
theorem dX11_readPart_95 : decode cX11_readPart 95 = .ok (.iconst 4, 1) := by decide +kernel
theorem dX11_readPart_96 : decode cX11_readPart 96 = .ok (.goto 59, 3) := by decide +kernel
theorem dX11_readPart_99 : decode cX11_readPart 99 = .ok (.aload_n 0, 1) := by decide +kernel
theorem dX11_readPart_100 : decode cX11_readPart 100 = .ok (.ldc 195, 2) := by decide +kernel
theorem dX11_readPart_102 : decode cX11_readPart 102 = .ok (.invokevirtual 111, 3) := by decide +kernel
theorem dX11_readPart_105 : decode cX11_readPart 105 = .ok (.ifCond .eq 7, 3) := by decide +kernel
theorem dX11_readPart_108 : decode cX11_readPart 108 = .ok (.iconst 5, 1) := by decide +kernel
theorem dX11_readPart_109 : decode cX11_readPart 109 = .ok (.goto 46, 3) := by decide +kernel
theorem dX11_readPart_112 : decode cX11_readPart 112 = .ok (.aload_n 0, 1) := by decide +kernel
theorem dX11_readPart_113 : decode cX11_readPart 113 = .ok (.ldc 118, 2) := by decide +kernel
theorem dX11_readPart_115 : decode cX11_readPart 115 = .ok (.invokevirtual 111, 3) := by decide +kernel
theorem dX11_readPart_118 : decode cX11_readPart 118 = .ok (.ifCond .eq 8, 3) := by decide +kernel
theorem dX11_readPart_121 : decode cX11_readPart 121 = .ok (.bipush 6, 2) := by decide +kernel
theorem dX11_readPart_123 : decode cX11_readPart 123 = .ok (.goto 32, 3) := by decide +kernel
theorem dX11_readPart_126 : decode cX11_readPart 126 = .ok (.aload_n 0, 1) := by decide +kernel
theorem dX11_readPart_127 : decode cX11_readPart 127 = .ok (.ldc 197, 2) := by decide +kernel
theorem dX11_readPart_129 : decode cX11_readPart 129 = .ok (.invokevirtual 111, 3) := by decide +kernel
theorem dX11_readPart_132 : decode cX11_readPart 132 = .ok (.ifCond .eq 8, 3) := by decide +kernel
theorem dX11_readPart_135 : decode cX11_readPart 135 = .ok (.bipush 7, 2) := by decide +kernel
theorem dX11_readPart_137 : decode cX11_readPart 137 = .ok (.goto 18, 3) := by decide +kernel
theorem dX11_readPart_140 : decode cX11_readPart 140 = .ok (.aload_n 0, 1) := by decide +kernel
theorem dX11_readPart_141 : decode cX11_readPart 141 = .ok (.ldc 199, 2) := by decide +kernel
theorem dX11_readPart_143 : decode cX11_readPart 143 = .ok (.invokevirtual 111, 3) := by decide +kernel
theorem dX11_readPart_146 : decode cX11_readPart 146 = .ok (.ifCond .eq 8, 3) := by decide +kernel
theorem dX11_readPart_149 : decode cX11_readPart 149 = .ok (.bipush 8, 2) := by decide +kernel
theorem dX11_readPart_151 : decode cX11_readPart 151 = .ok (.goto 4, 3) := by decide +kernel
theorem dX11_readPart_154 : decode cX11_readPart 154 = .ok (.iconst (-1), 1) := by decide +kernel
theorem dX11_readPart_155 : decode cX11_readPart 155 = .ok (.istore_n 1, 1) := by decide +kernel
theorem dX11_readPart_156 : decode cX11_readPart 156 = .ok (.aload_n 0, 1) := by decide +kernel
theorem dX11_readPart_157 : decode cX11_readPart 157 = .ok (.iload_n 1, 1) := by decide +kernel
theorem dX11_readPart_158 : decode cX11_readPart 158 = .ok (.iconst 0, 1) := by decide +kernel
theorem dX11_readPart_159 : decode cX11_readPart 159 = .ok (.invokevirtual 185, 3) := by decide +kernel
theorem dX11_readPart_162 : decode cX11_readPart 162 = .ok (.iload_n 1, 1) := by decide +kernel
theorem dX11_readPart_163 : decode cX11_readPart 163 = .ok (.ifCond .lt 7, 3) := by decide +kernel
theorem dX11_readPart_166 : decode cX11_readPart 166 = .ok (.iconst 1, 1) := by decide +kernel
theorem dX11_readPart_167 : decode cX11_readPart 167 = .ok (.goto 4, 3) := by decide +kernel
theorem dX11_readPart_170 : decode cX11_readPart 170 = .ok (.iconst 0, 1) := by decide +kernel
theorem dX11_readPart_171 : decode cX11_readPart 171 = .ok (.ireturn, 1) := by decide +kernel
theorem lv_RX11_185 : gLv RX11 185 RX11 yX11_emits cX11_emits 3 none 2 := gLv_of (wA_t (wt7 (List.mem_of_getElem? (i := 204) (by decide +kernel))) (by decide +kernel)) (wA_t (wt7 (List.mem_of_getElem? (i := 206) (by decide +kernel))) (by decide +kernel)) (wA_of (List.mem_append_left _ (List.mem_map.mpr ⟨(⟨"YearRopeModel", "emits", "(II)V"⟩, 20), wp5 (List.mem_of_getElem? (i := 7) (by decide +kernel)), rfl⟩)) (by decide +kernel)) (wA_t (wt1 (List.mem_of_getElem? (i := 12) (by decide +kernel))) (by decide +kernel)) (wA_t (wt7 (List.mem_of_getElem? (i := 207) (by decide +kernel))) (by decide +kernel)) ⟨rfl, by decide +kernel, by decide +kernel, by decide +kernel⟩
def rm_X11_readPart : Room := { frames := 5, cells := 0, slots := 0, locals := 183 }
def k_X11_readPart_162 (τ : gτ) (n : Nat) (x1 : Int32)  (G : gG) : Option (Int32 × gG) :=
  if x1 < 0 then (some (0, G))
  else (some (1, G))
def k_X11_readPart_155 (τ : gτ) (n : Nat) (x0 : Nat) (s0 : Int32) (G : gG) : Option (Int32 × gG) :=
  (f_X11_emits τ x0 s0 (0 : Int32) G).bind fun G23 =>
  k_X11_readPart_162 τ n s0  G23
def f_X11_readPart (τ : gτ) (n : Nat) (x0 : Nat) (G : gG) : Option (Int32 × gG) :=
  (f_X11_letters τ n x0 G).bind fun G1 =>
  if (gi G1 11 10 x0) = (gi G1 11 12 x0) then (gBind2 (f_X11_number τ n x0 (0 : Int32) (999 : Int32) G1) fun v2 G3 =>
  (f_X11_emits τ x0 (11 : Int32) v2 G3).bind fun G4 =>
  k_X11_readPart_162 τ n v2  G4)
  else ((f_X11_isWord τ n x0 s_weak G1).bind fun v6 =>
  if v6 = 0 then ((f_X11_isWord τ n x0 s_strong G1).bind fun v8 =>
  if v8 = 0 then ((f_X11_isWord τ n x0 s_rot G1).bind fun v10 =>
  if v10 = 0 then ((f_X11_isWord τ n x0 s_reigns G1).bind fun v12 =>
  if v12 = 0 then ((f_X11_isWord τ n x0 s_tar G1).bind fun v14 =>
  if v14 = 0 then ((f_X11_isWord τ n x0 s_worn G1).bind fun v16 =>
  if v16 = 0 then ((f_X11_isWord τ n x0 s_long G1).bind fun v18 =>
  if v18 = 0 then ((f_X11_isWord τ n x0 s_plies G1).bind fun v20 =>
  if v20 = 0 then ((f_X11_isWord τ n x0 s_load G1).bind fun v22 =>
  if v22 = 0 then (k_X11_readPart_155 τ n x0 (-1 : Int32) G1)
  else (k_X11_readPart_155 τ n x0 (8 : Int32) G1))
  else (k_X11_readPart_155 τ n x0 (7 : Int32) G1))
  else (k_X11_readPart_155 τ n x0 (6 : Int32) G1))
  else (k_X11_readPart_155 τ n x0 (5 : Int32) G1))
  else (k_X11_readPart_155 τ n x0 (4 : Int32) G1))
  else (k_X11_readPart_155 τ n x0 (3 : Int32) G1))
  else (k_X11_readPart_155 τ n x0 (2 : Int32) G1))
  else (k_X11_readPart_155 τ n x0 (1 : Int32) G1))
  else (k_X11_readPart_155 τ n x0 (0 : Int32) G1))
set_option maxHeartbeats 4000000 in
set_option maxRecDepth 100000 in
theorem w_X11_readPart_162 {X : gX} {τ : gτ} {p : Program} {l : Launch} {e : Env} {s : State} {m : MethodId} {args : Array Value} {below : List Frame} {meth : Method} {c : Code} (fx : gFx X p s m args meth c cX11_readPart 2 RX11) (hS : gS0 l X) (n : Nat) (x1 : Int32)    (hr : meth.sig.returnType = (some .boolean)) {r : Int32} {G' : gG} {G : gG} {H : Heap} {locs : List Loc} {ls : Array Slot} (hw : gHw X τ G H locs) (hl : lv_has ls 2 [(1, .int x1)]) (hok : gOk (k_X11_readPart_162 τ n x1  G) (fun q => q = (r, G')))  : W p l e rm_X11_readPart s m args below meth c H locs 0 0 (MQ below (gQ X τ (some (.int r)) G') args s 0 0 (gFree X)) (F0 m 162 ls []) := by
  unfold k_X11_readPart_162 at hok
  refine lv_iload_n fx.1 fx.2.1 dX11_readPart_162 rfl (lv_at hl 0 rfl) ?_
  refine g_if_lt (tgt := 170) fx dX11_readPart_163 (by decide) hok (fun hok => ?_) (fun hok => ?_)
  · refine lv_iconst (v := 0) fx.1 fx.2.1 dX11_readPart_170 (by decide) ?_
    cases gOk_some hok
    exact g_zret fx hw hr (by decide) dX11_readPart_171
  · refine lv_iconst (v := 1) fx.1 fx.2.1 dX11_readPart_166 (by decide) ?_
    refine lv_goto (tgt := 171) fx.1 fx.2.1 dX11_readPart_167 (by decide) ?_
    cases gOk_some hok
    exact g_zret fx hw hr (by decide) dX11_readPart_171
set_option maxHeartbeats 4000000 in
set_option maxRecDepth 100000 in
theorem w_X11_readPart_155 {X : gX} {τ : gτ} {p : Program} {l : Launch} {e : Env} {s : State} {m : MethodId} {args : Array Value} {below : List Frame} {meth : Method} {c : Code} (fx : gFx X p s m args meth c cX11_readPart 2 RX11) (hS : gS0 l X) (n : Nat) (x0 : Nat) (s0 : Int32) (h0 : gK τ x0 11)  (hr : meth.sig.returnType = (some .boolean)) {r : Int32} {G' : gG} {G : gG} {H : Heap} {locs : List Loc} {ls : Array Slot} (hw : gHw X τ G H locs) (hl : lv_has ls 2 [(0, .ref x0)]) (hok : gOk (k_X11_readPart_155 τ n x0 s0 G) (fun q => q = (r, G')))  : W p l e rm_X11_readPart s m args below meth c H locs 0 0 (MQ below (gQ X τ (some (.int r)) G') args s 0 0 (gFree X)) (F0 m 155 ls [.int s0]) := by
  unfold k_X11_readPart_155 at hok
  refine lv_istore_n (lv' := [(1, .int s0), (0, .ref x0)]) fx.1 fx.2.1 dX11_readPart_155 rfl hl (by decide) rfl (fun ls hl => ?_)
  refine lv_aload_n fx.1 fx.2.1 dX11_readPart_156 rfl (lv_at hl 1 rfl) ?_
  refine lv_iload_n fx.1 fx.2.1 dX11_readPart_157 rfl (lv_at hl 0 rfl) ?_
  refine lv_iconst (v := 0) fx.1 fx.2.1 dX11_readPart_158 (by decide) ?_
  obtain ⟨G23, hf, hok⟩ := gOk_bind hok
  refine g_callV0 (κ := 11) fx hw (c_X11_emits l X τ x0 s0 (0 : Int32) G h0 hf) lv_RX11_185 ⟨rfl, rfl⟩ rfl rfl h0 rfl hl.1 rfl ⟨Nat.le_of_ble_eq_true rfl, Nat.le_of_ble_eq_true rfl⟩ (Nat.le_of_ble_eq_true rfl) ⟨Nat.le_of_ble_eq_true rfl, Nat.le_of_ble_eq_true rfl⟩ dX11_readPart_159 (fun H locs hw => ?_)
  exact w_X11_readPart_162 fx hS n s0    hr hw (lv_sub hl [0] rfl) hok
set_option maxHeartbeats 4000000 in
set_option maxRecDepth 100000 in
theorem c_X11_readPart (l : Launch) (X : gX) (τ : gτ) (n : Nat) (hS : gS0 l X) (x0 : Nat) (G : gG) (h0 : gK τ x0 11) {r : Int32} {G' : gG} (h : f_X11_readPart τ n x0 G = some (r, G')) : gM l X τ yX11_readPart cX11_readPart 2 (some .boolean) rm_X11_readPart [.ref x0] G (some (.int r)) G' := by
  refine g_body (by decide +kernel) (Nat.le_of_ble_eq_true rfl) ?_
  intro p e s m args below meth c ls fx hr hw hl
  have fx : gFx X p s m args meth c cX11_readPart 2 RX11 := fx
  have hl : lv_has ls 2 [(0, .ref x0)] := hl
  have hok : gOk (f_X11_readPart τ n x0 G) (fun q => q = (r, G')) := ⟨_, h, rfl⟩
  unfold f_X11_readPart at hok
  show W p l e rm_X11_readPart s m args below meth c s.heap [] 0 0 (MQ below (gQ X τ (some (.int r)) G') args s 0 0 (gFree X)) _
  refine lv_aload_n fx.1 fx.2.1 dX11_readPart_0 rfl (lv_at hl 0 rfl) ?_
  obtain ⟨G1, hf, hok⟩ := gOk_bind hok
  refine g_callV0 (κ := 11) fx hw (c_X11_letters l X τ n x0 G h0 hf) lv_RX11_108 ⟨rfl, rfl⟩ rfl rfl h0 rfl hl.1 rfl ⟨Nat.le_of_ble_eq_true rfl, Nat.le_of_ble_eq_true rfl⟩ (Nat.le_of_ble_eq_true rfl) ⟨Nat.le_of_ble_eq_true rfl, Nat.le_of_ble_eq_true rfl⟩ dX11_readPart_1 (fun H locs hw => ?_)
  refine lv_aload_n fx.1 fx.2.1 dX11_readPart_4 rfl (lv_at hl 0 rfl) ?_
  refine g_geti fx hw h0 lf_RX11_83 rfl dX11_readPart_5 ?_
  refine lv_aload_n fx.1 fx.2.1 dX11_readPart_8 rfl (lv_at hl 0 rfl) ?_
  refine g_geti fx hw h0 lf_RX11_93 rfl dX11_readPart_9 ?_
  refine g_icmp_ne (tgt := 34) fx dX11_readPart_12 (by decide) hok (fun hok => ?_) (fun hok => ?_)
  · refine lv_aload_n fx.1 fx.2.1 dX11_readPart_15 rfl (lv_at hl 0 rfl) ?_
    refine lv_iconst (v := 0) fx.1 fx.2.1 dX11_readPart_16 (by decide) ?_
    refine lv_sipush (v := 999) fx.1 fx.2.1 dX11_readPart_17 (by decide) ?_
    obtain ⟨v2, G3, hf, hok⟩ := gOk_bind2 hok
    refine g_callV0 (κ := 11) fx hw (c_X11_number l X τ n x0 (0 : Int32) (999 : Int32) G1 h0 hf) lv_RX11_115 ⟨rfl, rfl⟩ rfl rfl h0 rfl hl.1 rfl ⟨Nat.le_of_ble_eq_true rfl, Nat.le_of_ble_eq_true rfl⟩ (Nat.le_of_ble_eq_true rfl) ⟨Nat.le_of_ble_eq_true rfl, Nat.le_of_ble_eq_true rfl⟩ dX11_readPart_20 (fun H locs hw => ?_)
    refine lv_istore_n (lv' := [(1, .int v2), (0, .ref x0)]) fx.1 fx.2.1 dX11_readPart_23 rfl hl (by decide) rfl (fun ls hl => ?_)
    refine lv_aload_n fx.1 fx.2.1 dX11_readPart_24 rfl (lv_at hl 1 rfl) ?_
    refine lv_bipush (v := 11) fx.1 fx.2.1 dX11_readPart_25 (by decide) ?_
    refine lv_iload_n fx.1 fx.2.1 dX11_readPart_27 rfl (lv_at hl 0 rfl) ?_
    obtain ⟨G4, hf, hok⟩ := gOk_bind hok
    refine g_callV0 (κ := 11) fx hw (c_X11_emits l X τ x0 (11 : Int32) v2 G3 h0 hf) lv_RX11_185 ⟨rfl, rfl⟩ rfl rfl h0 rfl hl.1 rfl ⟨Nat.le_of_ble_eq_true rfl, Nat.le_of_ble_eq_true rfl⟩ (Nat.le_of_ble_eq_true rfl) ⟨Nat.le_of_ble_eq_true rfl, Nat.le_of_ble_eq_true rfl⟩ dX11_readPart_28 (fun H locs hw => ?_)
    refine lv_goto (tgt := 162) fx.1 fx.2.1 dX11_readPart_31 (by decide) ?_
    exact w_X11_readPart_162 fx hS n v2    hr hw (lv_sub hl [0] rfl) hok
  · refine lv_aload_n fx.1 fx.2.1 dX11_readPart_34 rfl (lv_at hl 0 rfl) ?_
    refine g_ldcS fx hS gt_RX11_189 dX11_readPart_35 (fun w5 h_w5 => ?_)
    obtain ⟨v6, hf, hok⟩ := gOk_bind hok
    refine g_callV0 (κ := 11) fx hw (c_X11_isWord l X τ n hS x0 s_weak G1 h0 h_w5 hf) lv_RX11_111 ⟨rfl, rfl⟩ rfl rfl h0 rfl hl.1 rfl ⟨Nat.le_of_ble_eq_true rfl, Nat.le_of_ble_eq_true rfl⟩ (Nat.le_of_ble_eq_true rfl) ⟨Nat.le_of_ble_eq_true rfl, Nat.le_of_ble_eq_true rfl⟩ dX11_readPart_37 (fun H locs hw => ?_)
    refine g_if_eq (tgt := 47) fx dX11_readPart_40 (by decide) hok (fun hok => ?_) (fun hok => ?_)
    · refine lv_aload_n fx.1 fx.2.1 dX11_readPart_47 rfl (lv_at hl 0 rfl) ?_
      refine g_ldcS fx hS gt_RX11_191 dX11_readPart_48 (fun w7 h_w7 => ?_)
      obtain ⟨v8, hf, hok⟩ := gOk_bind hok
      refine g_callV0 (κ := 11) fx hw (c_X11_isWord l X τ n hS x0 s_strong G1 h0 h_w7 hf) lv_RX11_111 ⟨rfl, rfl⟩ rfl rfl h0 rfl hl.1 rfl ⟨Nat.le_of_ble_eq_true rfl, Nat.le_of_ble_eq_true rfl⟩ (Nat.le_of_ble_eq_true rfl) ⟨Nat.le_of_ble_eq_true rfl, Nat.le_of_ble_eq_true rfl⟩ dX11_readPart_50 (fun H locs hw => ?_)
      refine g_if_eq (tgt := 60) fx dX11_readPart_53 (by decide) hok (fun hok => ?_) (fun hok => ?_)
      · refine lv_aload_n fx.1 fx.2.1 dX11_readPart_60 rfl (lv_at hl 0 rfl) ?_
        refine g_ldcS fx hS gt_RX11_124 dX11_readPart_61 (fun w9 h_w9 => ?_)
        obtain ⟨v10, hf, hok⟩ := gOk_bind hok
        refine g_callV0 (κ := 11) fx hw (c_X11_isWord l X τ n hS x0 s_rot G1 h0 h_w9 hf) lv_RX11_111 ⟨rfl, rfl⟩ rfl rfl h0 rfl hl.1 rfl ⟨Nat.le_of_ble_eq_true rfl, Nat.le_of_ble_eq_true rfl⟩ (Nat.le_of_ble_eq_true rfl) ⟨Nat.le_of_ble_eq_true rfl, Nat.le_of_ble_eq_true rfl⟩ dX11_readPart_63 (fun H locs hw => ?_)
        refine g_if_eq (tgt := 73) fx dX11_readPart_66 (by decide) hok (fun hok => ?_) (fun hok => ?_)
        · refine lv_aload_n fx.1 fx.2.1 dX11_readPart_73 rfl (lv_at hl 0 rfl) ?_
          refine g_ldcS fx hS gt_RX11_193 dX11_readPart_74 (fun w11 h_w11 => ?_)
          obtain ⟨v12, hf, hok⟩ := gOk_bind hok
          refine g_callV0 (κ := 11) fx hw (c_X11_isWord l X τ n hS x0 s_reigns G1 h0 h_w11 hf) lv_RX11_111 ⟨rfl, rfl⟩ rfl rfl h0 rfl hl.1 rfl ⟨Nat.le_of_ble_eq_true rfl, Nat.le_of_ble_eq_true rfl⟩ (Nat.le_of_ble_eq_true rfl) ⟨Nat.le_of_ble_eq_true rfl, Nat.le_of_ble_eq_true rfl⟩ dX11_readPart_76 (fun H locs hw => ?_)
          refine g_if_eq (tgt := 86) fx dX11_readPart_79 (by decide) hok (fun hok => ?_) (fun hok => ?_)
          · refine lv_aload_n fx.1 fx.2.1 dX11_readPart_86 rfl (lv_at hl 0 rfl) ?_
            refine g_ldcS fx hS gt_RX11_171 dX11_readPart_87 (fun w13 h_w13 => ?_)
            obtain ⟨v14, hf, hok⟩ := gOk_bind hok
            refine g_callV0 (κ := 11) fx hw (c_X11_isWord l X τ n hS x0 s_tar G1 h0 h_w13 hf) lv_RX11_111 ⟨rfl, rfl⟩ rfl rfl h0 rfl hl.1 rfl ⟨Nat.le_of_ble_eq_true rfl, Nat.le_of_ble_eq_true rfl⟩ (Nat.le_of_ble_eq_true rfl) ⟨Nat.le_of_ble_eq_true rfl, Nat.le_of_ble_eq_true rfl⟩ dX11_readPart_89 (fun H locs hw => ?_)
            refine g_if_eq (tgt := 99) fx dX11_readPart_92 (by decide) hok (fun hok => ?_) (fun hok => ?_)
            · refine lv_aload_n fx.1 fx.2.1 dX11_readPart_99 rfl (lv_at hl 0 rfl) ?_
              refine g_ldcS fx hS gt_RX11_195 dX11_readPart_100 (fun w15 h_w15 => ?_)
              obtain ⟨v16, hf, hok⟩ := gOk_bind hok
              refine g_callV0 (κ := 11) fx hw (c_X11_isWord l X τ n hS x0 s_worn G1 h0 h_w15 hf) lv_RX11_111 ⟨rfl, rfl⟩ rfl rfl h0 rfl hl.1 rfl ⟨Nat.le_of_ble_eq_true rfl, Nat.le_of_ble_eq_true rfl⟩ (Nat.le_of_ble_eq_true rfl) ⟨Nat.le_of_ble_eq_true rfl, Nat.le_of_ble_eq_true rfl⟩ dX11_readPart_102 (fun H locs hw => ?_)
              refine g_if_eq (tgt := 112) fx dX11_readPart_105 (by decide) hok (fun hok => ?_) (fun hok => ?_)
              · refine lv_aload_n fx.1 fx.2.1 dX11_readPart_112 rfl (lv_at hl 0 rfl) ?_
                refine g_ldcS fx hS gt_RX11_118 dX11_readPart_113 (fun w17 h_w17 => ?_)
                obtain ⟨v18, hf, hok⟩ := gOk_bind hok
                refine g_callV0 (κ := 11) fx hw (c_X11_isWord l X τ n hS x0 s_long G1 h0 h_w17 hf) lv_RX11_111 ⟨rfl, rfl⟩ rfl rfl h0 rfl hl.1 rfl ⟨Nat.le_of_ble_eq_true rfl, Nat.le_of_ble_eq_true rfl⟩ (Nat.le_of_ble_eq_true rfl) ⟨Nat.le_of_ble_eq_true rfl, Nat.le_of_ble_eq_true rfl⟩ dX11_readPart_115 (fun H locs hw => ?_)
                refine g_if_eq (tgt := 126) fx dX11_readPart_118 (by decide) hok (fun hok => ?_) (fun hok => ?_)
                · refine lv_aload_n fx.1 fx.2.1 dX11_readPart_126 rfl (lv_at hl 0 rfl) ?_
                  refine g_ldcS fx hS gt_RX11_197 dX11_readPart_127 (fun w19 h_w19 => ?_)
                  obtain ⟨v20, hf, hok⟩ := gOk_bind hok
                  refine g_callV0 (κ := 11) fx hw (c_X11_isWord l X τ n hS x0 s_plies G1 h0 h_w19 hf) lv_RX11_111 ⟨rfl, rfl⟩ rfl rfl h0 rfl hl.1 rfl ⟨Nat.le_of_ble_eq_true rfl, Nat.le_of_ble_eq_true rfl⟩ (Nat.le_of_ble_eq_true rfl) ⟨Nat.le_of_ble_eq_true rfl, Nat.le_of_ble_eq_true rfl⟩ dX11_readPart_129 (fun H locs hw => ?_)
                  refine g_if_eq (tgt := 140) fx dX11_readPart_132 (by decide) hok (fun hok => ?_) (fun hok => ?_)
                  · refine lv_aload_n fx.1 fx.2.1 dX11_readPart_140 rfl (lv_at hl 0 rfl) ?_
                    refine g_ldcS fx hS gt_RX11_199 dX11_readPart_141 (fun w21 h_w21 => ?_)
                    obtain ⟨v22, hf, hok⟩ := gOk_bind hok
                    refine g_callV0 (κ := 11) fx hw (c_X11_isWord l X τ n hS x0 s_load G1 h0 h_w21 hf) lv_RX11_111 ⟨rfl, rfl⟩ rfl rfl h0 rfl hl.1 rfl ⟨Nat.le_of_ble_eq_true rfl, Nat.le_of_ble_eq_true rfl⟩ (Nat.le_of_ble_eq_true rfl) ⟨Nat.le_of_ble_eq_true rfl, Nat.le_of_ble_eq_true rfl⟩ dX11_readPart_143 (fun H locs hw => ?_)
                    refine g_if_eq (tgt := 154) fx dX11_readPart_146 (by decide) hok (fun hok => ?_) (fun hok => ?_)
                    · refine lv_iconst (v := (-1)) fx.1 fx.2.1 dX11_readPart_154 (by decide) ?_
                      exact w_X11_readPart_155 fx hS n x0 (-1 : Int32) h0  hr hw (lv_sub hl [0] rfl) hok
                    · refine lv_bipush (v := 8) fx.1 fx.2.1 dX11_readPart_149 (by decide) ?_
                      refine lv_goto (tgt := 155) fx.1 fx.2.1 dX11_readPart_151 (by decide) ?_
                      exact w_X11_readPart_155 fx hS n x0 (8 : Int32) h0  hr hw (lv_sub hl [0] rfl) hok
                  · refine lv_bipush (v := 7) fx.1 fx.2.1 dX11_readPart_135 (by decide) ?_
                    refine lv_goto (tgt := 155) fx.1 fx.2.1 dX11_readPart_137 (by decide) ?_
                    exact w_X11_readPart_155 fx hS n x0 (7 : Int32) h0  hr hw (lv_sub hl [0] rfl) hok
                · refine lv_bipush (v := 6) fx.1 fx.2.1 dX11_readPart_121 (by decide) ?_
                  refine lv_goto (tgt := 155) fx.1 fx.2.1 dX11_readPart_123 (by decide) ?_
                  exact w_X11_readPart_155 fx hS n x0 (6 : Int32) h0  hr hw (lv_sub hl [0] rfl) hok
              · refine lv_iconst (v := 5) fx.1 fx.2.1 dX11_readPart_108 (by decide) ?_
                refine lv_goto (tgt := 155) fx.1 fx.2.1 dX11_readPart_109 (by decide) ?_
                exact w_X11_readPart_155 fx hS n x0 (5 : Int32) h0  hr hw (lv_sub hl [0] rfl) hok
            · refine lv_iconst (v := 4) fx.1 fx.2.1 dX11_readPart_95 (by decide) ?_
              refine lv_goto (tgt := 155) fx.1 fx.2.1 dX11_readPart_96 (by decide) ?_
              exact w_X11_readPart_155 fx hS n x0 (4 : Int32) h0  hr hw (lv_sub hl [0] rfl) hok
          · refine lv_iconst (v := 3) fx.1 fx.2.1 dX11_readPart_82 (by decide) ?_
            refine lv_goto (tgt := 155) fx.1 fx.2.1 dX11_readPart_83 (by decide) ?_
            exact w_X11_readPart_155 fx hS n x0 (3 : Int32) h0  hr hw (lv_sub hl [0] rfl) hok
        · refine lv_iconst (v := 2) fx.1 fx.2.1 dX11_readPart_69 (by decide) ?_
          refine lv_goto (tgt := 155) fx.1 fx.2.1 dX11_readPart_70 (by decide) ?_
          exact w_X11_readPart_155 fx hS n x0 (2 : Int32) h0  hr hw (lv_sub hl [0] rfl) hok
      · refine lv_iconst (v := 1) fx.1 fx.2.1 dX11_readPart_56 (by decide) ?_
        refine lv_goto (tgt := 155) fx.1 fx.2.1 dX11_readPart_57 (by decide) ?_
        exact w_X11_readPart_155 fx hS n x0 (1 : Int32) h0  hr hw (lv_sub hl [0] rfl) hok
    · refine lv_iconst (v := 0) fx.1 fx.2.1 dX11_readPart_43 (by decide) ?_
      refine lv_goto (tgt := 155) fx.1 fx.2.1 dX11_readPart_44 (by decide) ?_
      exact w_X11_readPart_155 fx hS n x0 (0 : Int32) h0  hr hw (lv_sub hl [0] rfl) hok
theorem dX11_readSum_0 : decode cX11_readSum 0 = .ok (.aload_n 0, 1) := by decide +kernel
theorem dX11_readSum_1 : decode cX11_readSum 1 = .ok (.invokevirtual 201, 3) := by decide +kernel
theorem dX11_readSum_4 : decode cX11_readSum 4 = .ok (.ifCond .ne 5, 3) := by decide +kernel
theorem dX11_readSum_7 : decode cX11_readSum 7 = .ok (.iconst 0, 1) := by decide +kernel
theorem dX11_readSum_8 : decode cX11_readSum 8 = .ok (.ireturn, 1) := by decide +kernel
theorem dX11_readSum_9 : decode cX11_readSum 9 = .ok (.aload_n 0, 1) := by decide +kernel
theorem dX11_readSum_10 : decode cX11_readSum 10 = .ok (.bipush 43, 2) := by decide +kernel
theorem dX11_readSum_12 : decode cX11_readSum 12 = .ok (.invokevirtual 204, 3) := by decide +kernel
theorem dX11_readSum_15 : decode cX11_readSum 15 = .ok (.ifCond .eq 22, 3) := by decide +kernel
theorem dX11_readSum_18 : decode cX11_readSum 18 = .ok (.aload_n 0, 1) := by decide +kernel
theorem dX11_readSum_19 : decode cX11_readSum 19 = .ok (.invokevirtual 201, 3) := by decide +kernel
theorem dX11_readSum_22 : decode cX11_readSum 22 = .ok (.ifCond .ne 5, 3) := by decide +kernel
theorem dX11_readSum_25 : decode cX11_readSum 25 = .ok (.iconst 0, 1) := by decide +kernel
theorem dX11_readSum_26 : decode cX11_readSum 26 = .ok (.ireturn, 1) := by decide +kernel
theorem dX11_readSum_27 : decode cX11_readSum 27 = .ok (.aload_n 0, 1) := by decide +kernel
theorem dX11_readSum_28 : decode cX11_readSum 28 = .ok (.bipush 12, 2) := by decide +kernel
theorem dX11_readSum_30 : decode cX11_readSum 30 = .ok (.iconst 0, 1) := by decide +kernel
theorem dX11_readSum_31 : decode cX11_readSum 31 = .ok (.invokevirtual 185, 3) := by decide +kernel
theorem dX11_readSum_34 : decode cX11_readSum 34 = .ok (.goto (-25), 3) := by decide +kernel
theorem dX11_readSum_37 : decode cX11_readSum 37 = .ok (.iconst 1, 1) := by decide +kernel
theorem dX11_readSum_38 : decode cX11_readSum 38 = .ok (.ireturn, 1) := by decide +kernel
theorem lv_RX11_201 : gLv RX11 201 RX11 yX11_readPart cX11_readPart 2 (some .boolean) 0 := gLv_of (wA_t (wt7 (List.mem_of_getElem? (i := 218) (by decide +kernel))) (by decide +kernel)) (wA_t (wt7 (List.mem_of_getElem? (i := 220) (by decide +kernel))) (by decide +kernel)) (wA_of (List.mem_append_left _ (List.mem_map.mpr ⟨(⟨"YearRopeModel", "readPart", "()Z"⟩, 20), wp5 (List.mem_of_getElem? (i := 10) (by decide +kernel)), rfl⟩)) (by decide +kernel)) (wA_t (wt1 (List.mem_of_getElem? (i := 12) (by decide +kernel))) (by decide +kernel)) (wA_t (wt7 (List.mem_of_getElem? (i := 221) (by decide +kernel))) (by decide +kernel)) ⟨rfl, by decide +kernel, by decide +kernel, by decide +kernel⟩
theorem lv_RX11_204 : gLv RX11 204 RX11 yX11_sign cX11_sign 2 (some .boolean) 1 := gLv_of (wA_t (wt7 (List.mem_of_getElem? (i := 199) (by decide +kernel))) (by decide +kernel)) (wA_t (wt7 (List.mem_of_getElem? (i := 201) (by decide +kernel))) (by decide +kernel)) (wA_of (List.mem_append_left _ (List.mem_map.mpr ⟨(⟨"YearRopeModel", "sign", "(I)Z"⟩, 20), wp5 (List.mem_of_getElem? (i := 6) (by decide +kernel)), rfl⟩)) (by decide +kernel)) (wA_t (wt1 (List.mem_of_getElem? (i := 12) (by decide +kernel))) (by decide +kernel)) (wA_t (wt7 (List.mem_of_getElem? (i := 202) (by decide +kernel))) (by decide +kernel)) ⟨rfl, by decide +kernel, by decide +kernel, by decide +kernel⟩
def rm_X11_readSum : Room := { frames := 6, cells := 0, slots := 0, locals := 204 }
def b_X11_readSum_9 (τ : gτ) (n : Nat) (x0 : Nat) (G : gG) : Option ((gG) ⊕ ((gG) ⊕ (gG))) :=
  gBind2 (f_X11_sign τ n x0 (43 : Int32) G) fun v3 G4 =>
  if v3 = 0 then (some (.inr (.inl G4)))
  else (gBind2 (f_X11_readPart τ n x0 G4) fun v5 G6 =>
  if v5 = 0 then (some (.inr (.inr G6)))
  else ((f_X11_emits τ x0 (12 : Int32) (0 : Int32) G6).bind fun G7 =>
  some (.inl G7)))
def l_X11_readSum_9 (τ : gτ) (n : Nat) (x0 : Nat) (G : gG) : Option ((gG) ⊕ (gG)) :=
  gIter (fun (q : gG) => b_X11_readSum_9 τ n x0 q) n G
def f_X11_readSum (τ : gτ) (n : Nat) (x0 : Nat) (G : gG) : Option (Int32 × gG) :=
  gBind2 (f_X11_readPart τ n x0 G) fun v1 G2 =>
  if v1 = 0 then (some (0, G2))
  else ((l_X11_readSum_9 τ n x0 G2).bind fun q => match q with
  | .inl q => gLet q fun G8 => (some (1, G8))
  | .inr q => (gLet q fun G9 => some (0, G9)))
set_option maxHeartbeats 4000000 in
set_option maxRecDepth 100000 in
theorem w_b_X11_readSum_9 {X : gX} {τ : gτ} {p : Program} {l : Launch} {e : Env} {s : State} {m : MethodId} {args : Array Value} {below : List Frame} {meth : Method} {c : Code} (fx : gFx X p s m args meth c cX11_readSum 1 RX11) (hS : gS0 l X) (n : Nat) (x0 : Nat) (h0 : gK τ x0 11) {Q : State → Prop} {K : ((gG) ⊕ ((gG) ⊕ (gG))) → Prop} {G : gG} {H : Heap} {locs : List Loc} {ls : Array Slot} (hw : gHw X τ G H locs) (hl : lv_has ls 1 [(0, .ref x0)]) (hok : gOk (b_X11_readSum_9 τ n x0 G) K) (hc : ∀ (G : gG) (H : Heap) (locs : List Loc) (ls : Array Slot), gHw X τ G H locs → lv_has ls 1 [(0, .ref x0)] → K (.inl G) → W p l e rm_X11_readSum s m args below meth c H locs 0 0 Q (F0 m 9 ls [])) (hx0 : ∀ (G : gG) (H : Heap) (locs : List Loc) (ls : Array Slot), gHw X τ G H locs → lv_has ls 1 [] → K (.inr (.inl G)) → W p l e rm_X11_readSum s m args below meth c H locs 0 0 Q (F0 m 37 ls [])) (hx1 : ∀ (G : gG) (H : Heap) (locs : List Loc) (ls : Array Slot), gHw X τ G H locs → lv_has ls 1 [] → K (.inr (.inr G)) → W p l e rm_X11_readSum s m args below meth c H locs 0 0 Q (F0 m 25 ls [])) : W p l e rm_X11_readSum s m args below meth c H locs 0 0 Q (F0 m 9 ls []) := by
  unfold b_X11_readSum_9 at hok
  refine lv_aload_n fx.1 fx.2.1 dX11_readSum_9 rfl (lv_at hl 0 rfl) ?_
  refine lv_bipush (v := 43) fx.1 fx.2.1 dX11_readSum_10 (by decide) ?_
  obtain ⟨v3, G4, hf, hok⟩ := gOk_bind2 hok
  refine g_callV0 (κ := 11) fx hw (c_X11_sign l X τ n x0 (43 : Int32) G h0 hf) lv_RX11_204 ⟨rfl, rfl⟩ rfl rfl h0 rfl hl.1 rfl ⟨Nat.le_of_ble_eq_true rfl, Nat.le_of_ble_eq_true rfl⟩ (Nat.le_of_ble_eq_true rfl) ⟨Nat.le_of_ble_eq_true rfl, Nat.le_of_ble_eq_true rfl⟩ dX11_readSum_12 (fun H locs hw => ?_)
  refine g_if_eq (tgt := 37) fx dX11_readSum_15 (by decide) hok (fun hok => ?_) (fun hok => ?_)
  · exact hx0  G4 _ _ _  hw (lv_sub hl [] rfl) (gOk_some hok)
  · refine lv_aload_n fx.1 fx.2.1 dX11_readSum_18 rfl (lv_at hl 0 rfl) ?_
    obtain ⟨v5, G6, hf, hok⟩ := gOk_bind2 hok
    refine g_callV0 (κ := 11) fx hw (c_X11_readPart l X τ n hS x0 G4 h0 hf) lv_RX11_201 ⟨rfl, rfl⟩ rfl rfl h0 rfl hl.1 rfl ⟨Nat.le_of_ble_eq_true rfl, Nat.le_of_ble_eq_true rfl⟩ (Nat.le_of_ble_eq_true rfl) ⟨Nat.le_of_ble_eq_true rfl, Nat.le_of_ble_eq_true rfl⟩ dX11_readSum_19 (fun H locs hw => ?_)
    refine g_if_ne (tgt := 27) fx dX11_readSum_22 (by decide) hok (fun hok => ?_) (fun hok => ?_)
    · exact hx1  G6 _ _ _  hw (lv_sub hl [] rfl) (gOk_some hok)
    · refine lv_aload_n fx.1 fx.2.1 dX11_readSum_27 rfl (lv_at hl 0 rfl) ?_
      refine lv_bipush (v := 12) fx.1 fx.2.1 dX11_readSum_28 (by decide) ?_
      refine lv_iconst (v := 0) fx.1 fx.2.1 dX11_readSum_30 (by decide) ?_
      obtain ⟨G7, hf, hok⟩ := gOk_bind hok
      refine g_callV0 (κ := 11) fx hw (c_X11_emits l X τ x0 (12 : Int32) (0 : Int32) G6 h0 hf) lv_RX11_185 ⟨rfl, rfl⟩ rfl rfl h0 rfl hl.1 rfl ⟨Nat.le_of_ble_eq_true rfl, Nat.le_of_ble_eq_true rfl⟩ (Nat.le_of_ble_eq_true rfl) ⟨Nat.le_of_ble_eq_true rfl, Nat.le_of_ble_eq_true rfl⟩ dX11_readSum_31 (fun H locs hw => ?_)
      refine lv_goto (tgt := 9) fx.1 fx.2.1 dX11_readSum_34 (by decide) ?_
      exact hc  G7 _ _ _  hw (lv_sub hl [0] rfl) (gOk_some hok)
theorem w_l_X11_readSum_9 {X : gX} {τ : gτ} {p : Program} {l : Launch} {e : Env} {s : State} {m : MethodId} {args : Array Value} {below : List Frame} {meth : Method} {c : Code} (fx : gFx X p s m args meth c cX11_readSum 1 RX11) (hS : gS0 l X) (n : Nat) (x0 : Nat) (h0 : gK τ x0 11) {Q : State → Prop} {K : ((gG) ⊕ (gG)) → Prop} (hx0 : ∀ (G : gG) (H : Heap) (locs : List Loc) (ls : Array Slot), gHw X τ G H locs → lv_has ls 1 [] → K (.inl G) → W p l e rm_X11_readSum s m args below meth c H locs 0 0 Q (F0 m 37 ls [])) (hx1 : ∀ (G : gG) (H : Heap) (locs : List Loc) (ls : Array Slot), gHw X τ G H locs → lv_has ls 1 [] → K (.inr G) → W p l e rm_X11_readSum s m args below meth c H locs 0 0 Q (F0 m 25 ls [])) : ∀ (k : Nat) (G : gG) (H : Heap) (locs : List Loc) (ls : Array Slot), gHw X τ G H locs → lv_has ls 1 [(0, .ref x0)] → gOk (gIter (fun (q : gG) => b_X11_readSum_9 τ n x0 q) k G) K → W p l e rm_X11_readSum s m args below meth c H locs 0 0 Q (F0 m 9 ls []) := by
  intro k
  induction k with
  | zero =>
    intro G H locs ls hw hl hok
    exact gOk_iter0 hok
  | succ k hc =>
    intro G H locs ls hw hl hok
    exact w_b_X11_readSum_9 fx hS n x0 h0 hw hl (gOk_iter hok) hc hx0 hx1
set_option maxHeartbeats 4000000 in
set_option maxRecDepth 100000 in
theorem c_X11_readSum (l : Launch) (X : gX) (τ : gτ) (n : Nat) (hS : gS0 l X) (x0 : Nat) (G : gG) (h0 : gK τ x0 11) {r : Int32} {G' : gG} (h : f_X11_readSum τ n x0 G = some (r, G')) : gM l X τ yX11_readSum cX11_readSum 1 (some .boolean) rm_X11_readSum [.ref x0] G (some (.int r)) G' := by
  refine g_body (by decide +kernel) (Nat.le_of_ble_eq_true rfl) ?_
  intro p e s m args below meth c ls fx hr hw hl
  have fx : gFx X p s m args meth c cX11_readSum 1 RX11 := fx
  have hl : lv_has ls 1 [(0, .ref x0)] := hl
  have hok : gOk (f_X11_readSum τ n x0 G) (fun q => q = (r, G')) := ⟨_, h, rfl⟩
  unfold f_X11_readSum at hok
  show W p l e rm_X11_readSum s m args below meth c s.heap [] 0 0 (MQ below (gQ X τ (some (.int r)) G') args s 0 0 (gFree X)) _
  refine lv_aload_n fx.1 fx.2.1 dX11_readSum_0 rfl (lv_at hl 0 rfl) ?_
  obtain ⟨v1, G2, hf, hok⟩ := gOk_bind2 hok
  refine g_callV0 (κ := 11) fx hw (c_X11_readPart l X τ n hS x0 G h0 hf) lv_RX11_201 ⟨rfl, rfl⟩ rfl rfl h0 rfl hl.1 rfl ⟨Nat.le_of_ble_eq_true rfl, Nat.le_of_ble_eq_true rfl⟩ (Nat.le_of_ble_eq_true rfl) ⟨Nat.le_of_ble_eq_true rfl, Nat.le_of_ble_eq_true rfl⟩ dX11_readSum_1 (fun H locs hw => ?_)
  refine g_if_ne (tgt := 9) fx dX11_readSum_4 (by decide) hok (fun hok => ?_) (fun hok => ?_)
  · refine lv_iconst (v := 0) fx.1 fx.2.1 dX11_readSum_7 (by decide) ?_
    cases gOk_some hok
    exact g_zret fx hw hr (by decide) dX11_readSum_8
  · refine w_l_X11_readSum_9 fx hS n x0 h0 ?_ ?_ n  G2 _ _ _  hw (lv_sub hl [0] rfl) (gOk_bindK hok)
    · intro G8 H locs ls hw hl hok
      have hok : gOk (ρ := Int32 × gG) (some (1, G8)) _ := hok
      refine lv_iconst (v := 1) fx.1 fx.2.1 dX11_readSum_37 (by decide) ?_
      cases gOk_some hok
      exact g_zret fx hw hr (by decide) dX11_readSum_38
    · intro G9 H locs ls hw hl hok
      have hok : gOk (ρ := Int32 × gG) (some (0, G9)) _ := hok
      refine lv_iconst (v := 0) fx.1 fx.2.1 dX11_readSum_25 (by decide) ?_
      cases gOk_some hok
      exact g_zret fx hw hr (by decide) dX11_readSum_26
theorem dX11_readTag_0 : decode cX11_readTag 0 = .ok (.aload_n 0, 1) := by decide +kernel
theorem dX11_readTag_1 : decode cX11_readTag 1 = .ok (.invokevirtual 108, 3) := by decide +kernel
theorem dX11_readTag_4 : decode cX11_readTag 4 = .ok (.aload_n 0, 1) := by decide +kernel
theorem dX11_readTag_5 : decode cX11_readTag 5 = .ok (.ldc 207, 2) := by decide +kernel
theorem dX11_readTag_7 : decode cX11_readTag 7 = .ok (.invokevirtual 111, 3) := by decide +kernel
theorem dX11_readTag_10 : decode cX11_readTag 10 = .ok (.ifCond .eq 8, 3) := by decide +kernel
theorem dX11_readTag_13 : decode cX11_readTag 13 = .ok (.bipush 9, 2) := by decide +kernel
theorem dX11_readTag_15 : decode cX11_readTag 15 = .ok (.goto 18, 3) := by decide +kernel
theorem dX11_readTag_18 : decode cX11_readTag 18 = .ok (.aload_n 0, 1) := by decide +kernel
theorem dX11_readTag_19 : decode cX11_readTag 19 = .ok (.ldc 209, 2) := by decide +kernel
theorem dX11_readTag_21 : decode cX11_readTag 21 = .ok (.invokevirtual 111, 3) := by decide +kernel
theorem dX11_readTag_24 : decode cX11_readTag 24 = .ok (.ifCond .eq 8, 3) := by decide +kernel
theorem dX11_readTag_27 : decode cX11_readTag 27 = .ok (.bipush 10, 2) := by decide +kernel
theorem dX11_readTag_29 : decode cX11_readTag 29 = .ok (.goto 4, 3) := by decide +kernel
theorem dX11_readTag_32 : decode cX11_readTag 32 = .ok (.iconst (-1), 1) := by decide +kernel
theorem dX11_readTag_33 : decode cX11_readTag 33 = .ok (.istore_n 1, 1) := by decide +kernel
theorem dX11_readTag_34 : decode cX11_readTag 34 = .ok (.iload_n 1, 1) := by decide +kernel
theorem dX11_readTag_35 : decode cX11_readTag 35 = .ok (.ifCond .lt 12, 3) := by decide +kernel
theorem dX11_readTag_38 : decode cX11_readTag 38 = .ok (.aload_n 0, 1) := by decide +kernel
theorem dX11_readTag_39 : decode cX11_readTag 39 = .ok (.iload_n 1, 1) := by decide +kernel
theorem dX11_readTag_40 : decode cX11_readTag 40 = .ok (.iconst 0, 1) := by decide +kernel
theorem dX11_readTag_41 : decode cX11_readTag 41 = .ok (.invokevirtual 185, 3) := by decide +kernel
theorem dX11_readTag_44 : decode cX11_readTag 44 = .ok (.goto 11, 3) := by decide +kernel
theorem dX11_readTag_47 : decode cX11_readTag 47 = .ok (.aload_n 0, 1) := by decide +kernel
theorem dX11_readTag_48 : decode cX11_readTag 48 = .ok (.aload_n 0, 1) := by decide +kernel
theorem dX11_readTag_49 : decode cX11_readTag 49 = .ok (.getfield 93, 3) := by decide +kernel
theorem dX11_readTag_52 : decode cX11_readTag 52 = .ok (.putfield 83, 3) := by decide +kernel
theorem dX11_readTag_55 : decode cX11_readTag 55 = .ok (.iload_n 1, 1) := by decide +kernel
theorem dX11_readTag_56 : decode cX11_readTag 56 = .ok (.ifCond .lt 7, 3) := by decide +kernel
theorem dX11_readTag_59 : decode cX11_readTag 59 = .ok (.iconst 1, 1) := by decide +kernel
theorem dX11_readTag_60 : decode cX11_readTag 60 = .ok (.goto 4, 3) := by decide +kernel
theorem dX11_readTag_63 : decode cX11_readTag 63 = .ok (.iconst 0, 1) := by decide +kernel
theorem dX11_readTag_64 : decode cX11_readTag 64 = .ok (.ireturn, 1) := by decide +kernel
def rm_X11_readTag : Room := { frames := 5, cells := 0, slots := 0, locals := 183 }
def k_X11_readTag_55 (τ : gτ) (n : Nat) (x1 : Int32)  (G : gG) : Option (Int32 × gG) :=
  if x1 < 0 then (some (0, G))
  else (some (1, G))
def k_X11_readTag_33 (τ : gτ) (n : Nat) (x0 : Nat) (s0 : Int32) (G : gG) : Option (Int32 × gG) :=
  if s0 < 0 then (gLet (gsi G 11 10 x0 (gi G 11 12 x0)) fun G6 =>
  k_X11_readTag_55 τ n s0  G6)
  else ((f_X11_emits τ x0 s0 (0 : Int32) G).bind fun G7 =>
  k_X11_readTag_55 τ n s0  G7)
def f_X11_readTag (τ : gτ) (n : Nat) (x0 : Nat) (G : gG) : Option (Int32 × gG) :=
  (f_X11_letters τ n x0 G).bind fun G1 =>
  (f_X11_isWord τ n x0 s_whipped G1).bind fun v3 =>
  if v3 = 0 then ((f_X11_isWord τ n x0 s_winter G1).bind fun v5 =>
  if v5 = 0 then (k_X11_readTag_33 τ n x0 (-1 : Int32) G1)
  else (k_X11_readTag_33 τ n x0 (10 : Int32) G1))
  else (k_X11_readTag_33 τ n x0 (9 : Int32) G1)
set_option maxHeartbeats 4000000 in
set_option maxRecDepth 100000 in
theorem w_X11_readTag_55 {X : gX} {τ : gτ} {p : Program} {l : Launch} {e : Env} {s : State} {m : MethodId} {args : Array Value} {below : List Frame} {meth : Method} {c : Code} (fx : gFx X p s m args meth c cX11_readTag 2 RX11) (hS : gS0 l X) (n : Nat) (x1 : Int32)    (hr : meth.sig.returnType = (some .boolean)) {r : Int32} {G' : gG} {G : gG} {H : Heap} {locs : List Loc} {ls : Array Slot} (hw : gHw X τ G H locs) (hl : lv_has ls 2 [(1, .int x1)]) (hok : gOk (k_X11_readTag_55 τ n x1  G) (fun q => q = (r, G')))  : W p l e rm_X11_readTag s m args below meth c H locs 0 0 (MQ below (gQ X τ (some (.int r)) G') args s 0 0 (gFree X)) (F0 m 55 ls []) := by
  unfold k_X11_readTag_55 at hok
  refine lv_iload_n fx.1 fx.2.1 dX11_readTag_55 rfl (lv_at hl 0 rfl) ?_
  refine g_if_lt (tgt := 63) fx dX11_readTag_56 (by decide) hok (fun hok => ?_) (fun hok => ?_)
  · refine lv_iconst (v := 0) fx.1 fx.2.1 dX11_readTag_63 (by decide) ?_
    cases gOk_some hok
    exact g_zret fx hw hr (by decide) dX11_readTag_64
  · refine lv_iconst (v := 1) fx.1 fx.2.1 dX11_readTag_59 (by decide) ?_
    refine lv_goto (tgt := 64) fx.1 fx.2.1 dX11_readTag_60 (by decide) ?_
    cases gOk_some hok
    exact g_zret fx hw hr (by decide) dX11_readTag_64
set_option maxHeartbeats 4000000 in
set_option maxRecDepth 100000 in
theorem w_X11_readTag_33 {X : gX} {τ : gτ} {p : Program} {l : Launch} {e : Env} {s : State} {m : MethodId} {args : Array Value} {below : List Frame} {meth : Method} {c : Code} (fx : gFx X p s m args meth c cX11_readTag 2 RX11) (hS : gS0 l X) (n : Nat) (x0 : Nat) (s0 : Int32) (h0 : gK τ x0 11)  (hr : meth.sig.returnType = (some .boolean)) {r : Int32} {G' : gG} {G : gG} {H : Heap} {locs : List Loc} {ls : Array Slot} (hw : gHw X τ G H locs) (hl : lv_has ls 2 [(0, .ref x0)]) (hok : gOk (k_X11_readTag_33 τ n x0 s0 G) (fun q => q = (r, G')))  : W p l e rm_X11_readTag s m args below meth c H locs 0 0 (MQ below (gQ X τ (some (.int r)) G') args s 0 0 (gFree X)) (F0 m 33 ls [.int s0]) := by
  unfold k_X11_readTag_33 at hok
  refine lv_istore_n (lv' := [(1, .int s0), (0, .ref x0)]) fx.1 fx.2.1 dX11_readTag_33 rfl hl (by decide) rfl (fun ls hl => ?_)
  refine lv_iload_n fx.1 fx.2.1 dX11_readTag_34 rfl (lv_at hl 0 rfl) ?_
  refine g_if_lt (tgt := 47) fx dX11_readTag_35 (by decide) hok (fun hok => ?_) (fun hok => ?_)
  · refine lv_aload_n fx.1 fx.2.1 dX11_readTag_47 rfl (lv_at hl 1 rfl) ?_
    refine lv_aload_n fx.1 fx.2.1 dX11_readTag_48 rfl (lv_at hl 1 rfl) ?_
    refine g_geti fx hw h0 lf_RX11_93 rfl dX11_readTag_49 ?_
    refine g_puti fx hw h0 lp_RX11_83 rfl rfl dX11_readTag_52 hok (fun G6 H locs hw hok => ?_)
    exact w_X11_readTag_55 fx hS n s0    hr hw (lv_sub hl [0] rfl) hok
  · refine lv_aload_n fx.1 fx.2.1 dX11_readTag_38 rfl (lv_at hl 1 rfl) ?_
    refine lv_iload_n fx.1 fx.2.1 dX11_readTag_39 rfl (lv_at hl 0 rfl) ?_
    refine lv_iconst (v := 0) fx.1 fx.2.1 dX11_readTag_40 (by decide) ?_
    obtain ⟨G7, hf, hok⟩ := gOk_bind hok
    refine g_callV0 (κ := 11) fx hw (c_X11_emits l X τ x0 s0 (0 : Int32) G h0 hf) lv_RX11_185 ⟨rfl, rfl⟩ rfl rfl h0 rfl hl.1 rfl ⟨Nat.le_of_ble_eq_true rfl, Nat.le_of_ble_eq_true rfl⟩ (Nat.le_of_ble_eq_true rfl) ⟨Nat.le_of_ble_eq_true rfl, Nat.le_of_ble_eq_true rfl⟩ dX11_readTag_41 (fun H locs hw => ?_)
    refine lv_goto (tgt := 55) fx.1 fx.2.1 dX11_readTag_44 (by decide) ?_
    exact w_X11_readTag_55 fx hS n s0    hr hw (lv_sub hl [0] rfl) hok
set_option maxHeartbeats 4000000 in
set_option maxRecDepth 100000 in
theorem c_X11_readTag (l : Launch) (X : gX) (τ : gτ) (n : Nat) (hS : gS0 l X) (x0 : Nat) (G : gG) (h0 : gK τ x0 11) {r : Int32} {G' : gG} (h : f_X11_readTag τ n x0 G = some (r, G')) : gM l X τ yX11_readTag cX11_readTag 2 (some .boolean) rm_X11_readTag [.ref x0] G (some (.int r)) G' := by
  refine g_body (by decide +kernel) (Nat.le_of_ble_eq_true rfl) ?_
  intro p e s m args below meth c ls fx hr hw hl
  have fx : gFx X p s m args meth c cX11_readTag 2 RX11 := fx
  have hl : lv_has ls 2 [(0, .ref x0)] := hl
  have hok : gOk (f_X11_readTag τ n x0 G) (fun q => q = (r, G')) := ⟨_, h, rfl⟩
  unfold f_X11_readTag at hok
  show W p l e rm_X11_readTag s m args below meth c s.heap [] 0 0 (MQ below (gQ X τ (some (.int r)) G') args s 0 0 (gFree X)) _
  refine lv_aload_n fx.1 fx.2.1 dX11_readTag_0 rfl (lv_at hl 0 rfl) ?_
  obtain ⟨G1, hf, hok⟩ := gOk_bind hok
  refine g_callV0 (κ := 11) fx hw (c_X11_letters l X τ n x0 G h0 hf) lv_RX11_108 ⟨rfl, rfl⟩ rfl rfl h0 rfl hl.1 rfl ⟨Nat.le_of_ble_eq_true rfl, Nat.le_of_ble_eq_true rfl⟩ (Nat.le_of_ble_eq_true rfl) ⟨Nat.le_of_ble_eq_true rfl, Nat.le_of_ble_eq_true rfl⟩ dX11_readTag_1 (fun H locs hw => ?_)
  refine lv_aload_n fx.1 fx.2.1 dX11_readTag_4 rfl (lv_at hl 0 rfl) ?_
  refine g_ldcS fx hS gt_RX11_207 dX11_readTag_5 (fun w2 h_w2 => ?_)
  obtain ⟨v3, hf, hok⟩ := gOk_bind hok
  refine g_callV0 (κ := 11) fx hw (c_X11_isWord l X τ n hS x0 s_whipped G1 h0 h_w2 hf) lv_RX11_111 ⟨rfl, rfl⟩ rfl rfl h0 rfl hl.1 rfl ⟨Nat.le_of_ble_eq_true rfl, Nat.le_of_ble_eq_true rfl⟩ (Nat.le_of_ble_eq_true rfl) ⟨Nat.le_of_ble_eq_true rfl, Nat.le_of_ble_eq_true rfl⟩ dX11_readTag_7 (fun H locs hw => ?_)
  refine g_if_eq (tgt := 18) fx dX11_readTag_10 (by decide) hok (fun hok => ?_) (fun hok => ?_)
  · refine lv_aload_n fx.1 fx.2.1 dX11_readTag_18 rfl (lv_at hl 0 rfl) ?_
    refine g_ldcS fx hS gt_RX11_209 dX11_readTag_19 (fun w4 h_w4 => ?_)
    obtain ⟨v5, hf, hok⟩ := gOk_bind hok
    refine g_callV0 (κ := 11) fx hw (c_X11_isWord l X τ n hS x0 s_winter G1 h0 h_w4 hf) lv_RX11_111 ⟨rfl, rfl⟩ rfl rfl h0 rfl hl.1 rfl ⟨Nat.le_of_ble_eq_true rfl, Nat.le_of_ble_eq_true rfl⟩ (Nat.le_of_ble_eq_true rfl) ⟨Nat.le_of_ble_eq_true rfl, Nat.le_of_ble_eq_true rfl⟩ dX11_readTag_21 (fun H locs hw => ?_)
    refine g_if_eq (tgt := 32) fx dX11_readTag_24 (by decide) hok (fun hok => ?_) (fun hok => ?_)
    · refine lv_iconst (v := (-1)) fx.1 fx.2.1 dX11_readTag_32 (by decide) ?_
      exact w_X11_readTag_33 fx hS n x0 (-1 : Int32) h0  hr hw (lv_sub hl [0] rfl) hok
    · refine lv_bipush (v := 10) fx.1 fx.2.1 dX11_readTag_27 (by decide) ?_
      refine lv_goto (tgt := 33) fx.1 fx.2.1 dX11_readTag_29 (by decide) ?_
      exact w_X11_readTag_33 fx hS n x0 (10 : Int32) h0  hr hw (lv_sub hl [0] rfl) hok
  · refine lv_bipush (v := 9) fx.1 fx.2.1 dX11_readTag_13 (by decide) ?_
    refine lv_goto (tgt := 33) fx.1 fx.2.1 dX11_readTag_15 (by decide) ?_
    exact w_X11_readTag_33 fx hS n x0 (9 : Int32) h0  hr hw (lv_sub hl [0] rfl) hok
def rm_r_X11 (d : Nat) : Room := { frames := d + 20, cells := 0, slots := 0, locals := 40 * d + 400 }
theorem dX11_readAllOf_0 : decode cX11_readAllOf 0 = .ok (.aload_n 0, 1) := by decide +kernel
theorem dX11_readAllOf_1 : decode cX11_readAllOf 1 = .ok (.invokevirtual 222, 3) := by decide +kernel
theorem dX11_readAllOf_4 : decode cX11_readAllOf 4 = .ok (.ifCond .ne 5, 3) := by decide +kernel
theorem dX11_readAllOf_7 : decode cX11_readAllOf 7 = .ok (.iconst 0, 1) := by decide +kernel
theorem dX11_readAllOf_8 : decode cX11_readAllOf 8 = .ok (.ireturn, 1) := by decide +kernel
theorem dX11_readAllOf_9 : decode cX11_readAllOf 9 = .ok (.aload_n 0, 1) := by decide +kernel
theorem dX11_readAllOf_10 : decode cX11_readAllOf 10 = .ok (.ldc 231, 2) := by decide +kernel
theorem dX11_readAllOf_12 : decode cX11_readAllOf 12 = .ok (.invokevirtual 219, 3) := by decide +kernel
theorem dX11_readAllOf_15 : decode cX11_readAllOf 15 = .ok (.ifCond .eq 22, 3) := by decide +kernel
theorem dX11_readAllOf_18 : decode cX11_readAllOf 18 = .ok (.aload_n 0, 1) := by decide +kernel
theorem dX11_readAllOf_19 : decode cX11_readAllOf 19 = .ok (.invokevirtual 222, 3) := by decide +kernel
theorem dX11_readAllOf_22 : decode cX11_readAllOf 22 = .ok (.ifCond .ne 5, 3) := by decide +kernel
theorem dX11_readAllOf_25 : decode cX11_readAllOf 25 = .ok (.iconst 0, 1) := by decide +kernel
theorem dX11_readAllOf_26 : decode cX11_readAllOf 26 = .ok (.ireturn, 1) := by decide +kernel
theorem dX11_readAllOf_27 : decode cX11_readAllOf 27 = .ok (.aload_n 0, 1) := by decide +kernel
theorem dX11_readAllOf_28 : decode cX11_readAllOf 28 = .ok (.bipush 16, 2) := by decide +kernel
theorem dX11_readAllOf_30 : decode cX11_readAllOf 30 = .ok (.iconst 0, 1) := by decide +kernel
theorem dX11_readAllOf_31 : decode cX11_readAllOf 31 = .ok (.invokevirtual 185, 3) := by decide +kernel
theorem dX11_readAllOf_34 : decode cX11_readAllOf 34 = .ok (.goto (-25), 3) := by decide +kernel
theorem dX11_readAllOf_37 : decode cX11_readAllOf 37 = .ok (.iconst 1, 1) := by decide +kernel
theorem dX11_readAllOf_38 : decode cX11_readAllOf 38 = .ok (.ireturn, 1) := by decide +kernel
theorem lv_RX11_222 : gLv RX11 222 RX11 yX11_readAtom cX11_readAtom 2 (some .boolean) 0 := gLv_of (wA_t (wt7 (List.mem_of_getElem? (i := 195) (by decide +kernel))) (by decide +kernel)) (wA_t (wt7 (List.mem_of_getElem? (i := 197) (by decide +kernel))) (by decide +kernel)) (wA_of (List.mem_append_left _ (List.mem_map.mpr ⟨(⟨"YearRopeModel", "readAtom", "()Z"⟩, 20), wp5 (List.mem_of_getElem? (i := 5) (by decide +kernel)), rfl⟩)) (by decide +kernel)) (wA_t (wt1 (List.mem_of_getElem? (i := 12) (by decide +kernel))) (by decide +kernel)) (wA_t (wt7 (List.mem_of_getElem? (i := 198) (by decide +kernel))) (by decide +kernel)) ⟨rfl, by decide +kernel, by decide +kernel, by decide +kernel⟩
theorem lv_RX11_219 : gLv RX11 219 RX11 yX11_passes cX11_passes 2 (some .boolean) 1 := gLv_of (wA_t (wt7 (List.mem_of_getElem? (i := 183) (by decide +kernel))) (by decide +kernel)) (wA_t (wt7 (List.mem_of_getElem? (i := 185) (by decide +kernel))) (by decide +kernel)) (wA_of (List.mem_append_left _ (List.mem_map.mpr ⟨(⟨"YearRopeModel", "passes", "(Ljava/lang/String;)Z"⟩, 20), wp5 (List.mem_of_getElem? (i := 2) (by decide +kernel)), rfl⟩)) (by decide +kernel)) (wA_t (wt1 (List.mem_of_getElem? (i := 12) (by decide +kernel))) (by decide +kernel)) (wA_t (wt7 (List.mem_of_getElem? (i := 186) (by decide +kernel))) (by decide +kernel)) ⟨rfl, by decide +kernel, by decide +kernel, by decide +kernel⟩
def b_X11_readAllOf_9 (τ : gτ) (n : Nat) (F : Nat → Nat → gG → Option (Int32 × gG)) (x0 : Nat) (G : gG) : Option ((gG) ⊕ ((gG) ⊕ (gG))) :=
  gBind2 (f_X11_passes τ n x0 s_and G) fun v4 G5 =>
  if v4 = 0 then (some (.inr (.inl G5)))
  else (gBind2 (F 2 x0 G5) fun v6 G7 =>
  if v6 = 0 then (some (.inr (.inr G7)))
  else ((f_X11_emits τ x0 (16 : Int32) (0 : Int32) G7).bind fun G8 =>
  some (.inl G8)))
def l_X11_readAllOf_9 (τ : gτ) (n : Nat) (F : Nat → Nat → gG → Option (Int32 × gG)) (x0 : Nat) (G : gG) : Option ((gG) ⊕ (gG)) :=
  gIter (fun (q : gG) => b_X11_readAllOf_9 τ n F x0 q) n G
def e_X11_readAllOf (τ : gτ) (n : Nat) (F : Nat → Nat → gG → Option (Int32 × gG)) (x0 : Nat) (G : gG) : Option (Int32 × gG) :=
  gBind2 (F 2 x0 G) fun v1 G2 =>
  if v1 = 0 then (some (0, G2))
  else ((l_X11_readAllOf_9 τ n F x0 G2).bind fun q => match q with
  | .inl q => gLet q fun G9 => (some (1, G9))
  | .inr q => (gLet q fun G10 => some (0, G10)))
set_option maxHeartbeats 4000000 in
set_option maxRecDepth 100000 in
theorem w_b_X11_readAllOf_9 {X : gX} {τ : gτ} {p : Program} {l : Launch} {e : Env} {s : State} {m : MethodId} {args : Array Value} {below : List Frame} {meth : Method} {c : Code} (fx : gFx X p s m args meth c cX11_readAllOf 1 RX11) (hS : gS0 l X) (F : Nat → Nat → gG → Option (Int32 × gG)) (d : Nat) (hF0 : ∀ (x0 : Nat) (G : gG) (r : Int32) (G' : gG), gK τ x0 11 → F 0 x0 G = some (r, G') → gM l X τ yX11_readCond cX11_readCond 1 (some .boolean) (rm_r_X11 d) [.ref x0] G (some (.int r)) G') (hF1 : ∀ (x0 : Nat) (G : gG) (r : Int32) (G' : gG), gK τ x0 11 → F 1 x0 G = some (r, G') → gM l X τ yX11_readAllOf cX11_readAllOf 1 (some .boolean) (rm_r_X11 d) [.ref x0] G (some (.int r)) G') (hF2 : ∀ (x0 : Nat) (G : gG) (r : Int32) (G' : gG), gK τ x0 11 → F 2 x0 G = some (r, G') → gM l X τ yX11_readAtom cX11_readAtom 2 (some .boolean) (rm_r_X11 d) [.ref x0] G (some (.int r)) G')  (n : Nat) (x0 : Nat) (h0 : gK τ x0 11) {Q : State → Prop} {K : ((gG) ⊕ ((gG) ⊕ (gG))) → Prop} {G : gG} {H : Heap} {locs : List Loc} {ls : Array Slot} (hw : gHw X τ G H locs) (hl : lv_has ls 1 [(0, .ref x0)]) (hok : gOk (b_X11_readAllOf_9 τ n F x0 G) K) (hc : ∀ (G : gG) (H : Heap) (locs : List Loc) (ls : Array Slot), gHw X τ G H locs → lv_has ls 1 [(0, .ref x0)] → K (.inl G) → W p l e (rm_r_X11 (d + 1)) s m args below meth c H locs 0 0 Q (F0 m 9 ls [])) (hx0 : ∀ (G : gG) (H : Heap) (locs : List Loc) (ls : Array Slot), gHw X τ G H locs → lv_has ls 1 [] → K (.inr (.inl G)) → W p l e (rm_r_X11 (d + 1)) s m args below meth c H locs 0 0 Q (F0 m 37 ls [])) (hx1 : ∀ (G : gG) (H : Heap) (locs : List Loc) (ls : Array Slot), gHw X τ G H locs → lv_has ls 1 [] → K (.inr (.inr G)) → W p l e (rm_r_X11 (d + 1)) s m args below meth c H locs 0 0 Q (F0 m 25 ls [])) : W p l e (rm_r_X11 (d + 1)) s m args below meth c H locs 0 0 Q (F0 m 9 ls []) := by
  unfold b_X11_readAllOf_9 at hok
  refine lv_aload_n fx.1 fx.2.1 dX11_readAllOf_9 rfl (lv_at hl 0 rfl) ?_
  refine g_ldcS fx hS gt_RX11_231 dX11_readAllOf_10 (fun w3 h_w3 => ?_)
  obtain ⟨v4, G5, hf, hok⟩ := gOk_bind2 hok
  refine g_callV0 (κ := 11) fx hw (c_X11_passes l X τ n hS x0 s_and G h0 h_w3 hf) lv_RX11_219 ⟨rfl, rfl⟩ rfl rfl h0 rfl hl.1 rfl ⟨by simp only [rm_r_X11, rm_X11_passes]; omega, by simp only [rm_r_X11, rm_X11_passes]; omega⟩ (Nat.le_of_ble_eq_true rfl) ⟨Nat.zero_le _, Nat.zero_le _⟩ dX11_readAllOf_12 (fun H locs hw => ?_)
  refine g_if_eq (tgt := 37) fx dX11_readAllOf_15 (by decide) hok (fun hok => ?_) (fun hok => ?_)
  · exact hx0  G5 _ _ _  hw (lv_sub hl [] rfl) (gOk_some hok)
  · refine lv_aload_n fx.1 fx.2.1 dX11_readAllOf_18 rfl (lv_at hl 0 rfl) ?_
    obtain ⟨v6, G7, hf, hok⟩ := gOk_bind2 hok
    refine g_callV0 (κ := 11) fx hw (hF2 x0 G5 v6 G7 h0 hf) lv_RX11_222 ⟨rfl, rfl⟩ rfl rfl h0 rfl hl.1 rfl ⟨by simp only [rm_r_X11]; omega, by simp only [rm_r_X11]; omega⟩ (Nat.le_of_ble_eq_true rfl) ⟨Nat.zero_le _, Nat.zero_le _⟩ dX11_readAllOf_19 (fun H locs hw => ?_)
    refine g_if_ne (tgt := 27) fx dX11_readAllOf_22 (by decide) hok (fun hok => ?_) (fun hok => ?_)
    · exact hx1  G7 _ _ _  hw (lv_sub hl [] rfl) (gOk_some hok)
    · refine lv_aload_n fx.1 fx.2.1 dX11_readAllOf_27 rfl (lv_at hl 0 rfl) ?_
      refine lv_bipush (v := 16) fx.1 fx.2.1 dX11_readAllOf_28 (by decide) ?_
      refine lv_iconst (v := 0) fx.1 fx.2.1 dX11_readAllOf_30 (by decide) ?_
      obtain ⟨G8, hf, hok⟩ := gOk_bind hok
      refine g_callV0 (κ := 11) fx hw (c_X11_emits l X τ x0 (16 : Int32) (0 : Int32) G7 h0 hf) lv_RX11_185 ⟨rfl, rfl⟩ rfl rfl h0 rfl hl.1 rfl ⟨by simp only [rm_r_X11, rm_X11_emits]; omega, by simp only [rm_r_X11, rm_X11_emits]; omega⟩ (Nat.le_of_ble_eq_true rfl) ⟨Nat.zero_le _, Nat.zero_le _⟩ dX11_readAllOf_31 (fun H locs hw => ?_)
      refine lv_goto (tgt := 9) fx.1 fx.2.1 dX11_readAllOf_34 (by decide) ?_
      exact hc  G8 _ _ _  hw (lv_sub hl [0] rfl) (gOk_some hok)
theorem w_l_X11_readAllOf_9 {X : gX} {τ : gτ} {p : Program} {l : Launch} {e : Env} {s : State} {m : MethodId} {args : Array Value} {below : List Frame} {meth : Method} {c : Code} (fx : gFx X p s m args meth c cX11_readAllOf 1 RX11) (hS : gS0 l X) (F : Nat → Nat → gG → Option (Int32 × gG)) (d : Nat) (hF0 : ∀ (x0 : Nat) (G : gG) (r : Int32) (G' : gG), gK τ x0 11 → F 0 x0 G = some (r, G') → gM l X τ yX11_readCond cX11_readCond 1 (some .boolean) (rm_r_X11 d) [.ref x0] G (some (.int r)) G') (hF1 : ∀ (x0 : Nat) (G : gG) (r : Int32) (G' : gG), gK τ x0 11 → F 1 x0 G = some (r, G') → gM l X τ yX11_readAllOf cX11_readAllOf 1 (some .boolean) (rm_r_X11 d) [.ref x0] G (some (.int r)) G') (hF2 : ∀ (x0 : Nat) (G : gG) (r : Int32) (G' : gG), gK τ x0 11 → F 2 x0 G = some (r, G') → gM l X τ yX11_readAtom cX11_readAtom 2 (some .boolean) (rm_r_X11 d) [.ref x0] G (some (.int r)) G')  (n : Nat) (x0 : Nat) (h0 : gK τ x0 11) {Q : State → Prop} {K : ((gG) ⊕ (gG)) → Prop} (hx0 : ∀ (G : gG) (H : Heap) (locs : List Loc) (ls : Array Slot), gHw X τ G H locs → lv_has ls 1 [] → K (.inl G) → W p l e (rm_r_X11 (d + 1)) s m args below meth c H locs 0 0 Q (F0 m 37 ls [])) (hx1 : ∀ (G : gG) (H : Heap) (locs : List Loc) (ls : Array Slot), gHw X τ G H locs → lv_has ls 1 [] → K (.inr G) → W p l e (rm_r_X11 (d + 1)) s m args below meth c H locs 0 0 Q (F0 m 25 ls [])) : ∀ (k : Nat) (G : gG) (H : Heap) (locs : List Loc) (ls : Array Slot), gHw X τ G H locs → lv_has ls 1 [(0, .ref x0)] → gOk (gIter (fun (q : gG) => b_X11_readAllOf_9 τ n F x0 q) k G) K → W p l e (rm_r_X11 (d + 1)) s m args below meth c H locs 0 0 Q (F0 m 9 ls []) := by
  intro k
  induction k with
  | zero =>
    intro G H locs ls hw hl hok
    exact gOk_iter0 hok
  | succ k hc =>
    intro G H locs ls hw hl hok
    exact w_b_X11_readAllOf_9 fx hS F d hF0 hF1 hF2 n x0 h0 hw hl (gOk_iter hok) hc hx0 hx1
set_option maxHeartbeats 4000000 in
set_option maxRecDepth 100000 in
theorem ce_X11_readAllOf (l : Launch) (X : gX) (τ : gτ) (n : Nat) (hS : gS0 l X) (F : Nat → Nat → gG → Option (Int32 × gG)) (d : Nat) (hF0 : ∀ (x0 : Nat) (G : gG) (r : Int32) (G' : gG), gK τ x0 11 → F 0 x0 G = some (r, G') → gM l X τ yX11_readCond cX11_readCond 1 (some .boolean) (rm_r_X11 d) [.ref x0] G (some (.int r)) G') (hF1 : ∀ (x0 : Nat) (G : gG) (r : Int32) (G' : gG), gK τ x0 11 → F 1 x0 G = some (r, G') → gM l X τ yX11_readAllOf cX11_readAllOf 1 (some .boolean) (rm_r_X11 d) [.ref x0] G (some (.int r)) G') (hF2 : ∀ (x0 : Nat) (G : gG) (r : Int32) (G' : gG), gK τ x0 11 → F 2 x0 G = some (r, G') → gM l X τ yX11_readAtom cX11_readAtom 2 (some .boolean) (rm_r_X11 d) [.ref x0] G (some (.int r)) G')  (x0 : Nat) (G : gG) (h0 : gK τ x0 11) {r : Int32} {G' : gG} (h : e_X11_readAllOf τ n F x0 G = some (r, G')) : gM l X τ yX11_readAllOf cX11_readAllOf 1 (some .boolean) (rm_r_X11 (d + 1)) [.ref x0] G (some (.int r)) G' := by
  refine g_body (by decide +kernel) (Nat.le_of_ble_eq_true rfl) ?_
  intro p e s m args below meth c ls fx hr hw hl
  have fx : gFx X p s m args meth c cX11_readAllOf 1 RX11 := fx
  have hl : lv_has ls 1 [(0, .ref x0)] := hl
  have hok : gOk (e_X11_readAllOf τ n F x0 G) (fun q => q = (r, G')) := ⟨_, h, rfl⟩
  unfold e_X11_readAllOf at hok
  show W p l e (rm_r_X11 (d + 1)) s m args below meth c s.heap [] 0 0 (MQ below (gQ X τ (some (.int r)) G') args s 0 0 (gFree X)) _
  refine lv_aload_n fx.1 fx.2.1 dX11_readAllOf_0 rfl (lv_at hl 0 rfl) ?_
  obtain ⟨v1, G2, hf, hok⟩ := gOk_bind2 hok
  refine g_callV0 (κ := 11) fx hw (hF2 x0 G v1 G2 h0 hf) lv_RX11_222 ⟨rfl, rfl⟩ rfl rfl h0 rfl hl.1 rfl ⟨by simp only [rm_r_X11]; omega, by simp only [rm_r_X11]; omega⟩ (Nat.le_of_ble_eq_true rfl) ⟨Nat.zero_le _, Nat.zero_le _⟩ dX11_readAllOf_1 (fun H locs hw => ?_)
  refine g_if_ne (tgt := 9) fx dX11_readAllOf_4 (by decide) hok (fun hok => ?_) (fun hok => ?_)
  · refine lv_iconst (v := 0) fx.1 fx.2.1 dX11_readAllOf_7 (by decide) ?_
    cases gOk_some hok
    exact g_zret fx hw hr (by decide) dX11_readAllOf_8
  · refine w_l_X11_readAllOf_9 fx hS F d hF0 hF1 hF2 n x0 h0 ?_ ?_ n  G2 _ _ _  hw (lv_sub hl [0] rfl) (gOk_bindK hok)
    · intro G9 H locs ls hw hl hok
      have hok : gOk (ρ := Int32 × gG) (some (1, G9)) _ := hok
      refine lv_iconst (v := 1) fx.1 fx.2.1 dX11_readAllOf_37 (by decide) ?_
      cases gOk_some hok
      exact g_zret fx hw hr (by decide) dX11_readAllOf_38
    · intro G10 H locs ls hw hl hok
      have hok : gOk (ρ := Int32 × gG) (some (0, G10)) _ := hok
      refine lv_iconst (v := 0) fx.1 fx.2.1 dX11_readAllOf_25 (by decide) ?_
      cases gOk_some hok
      exact g_zret fx hw hr (by decide) dX11_readAllOf_26
theorem dX11_readCond_0 : decode cX11_readCond 0 = .ok (.aload_n 0, 1) := by decide +kernel
theorem dX11_readCond_1 : decode cX11_readCond 1 = .ok (.invokevirtual 233, 3) := by decide +kernel
theorem dX11_readCond_4 : decode cX11_readCond 4 = .ok (.ifCond .ne 5, 3) := by decide +kernel
theorem dX11_readCond_7 : decode cX11_readCond 7 = .ok (.iconst 0, 1) := by decide +kernel
theorem dX11_readCond_8 : decode cX11_readCond 8 = .ok (.ireturn, 1) := by decide +kernel
theorem dX11_readCond_9 : decode cX11_readCond 9 = .ok (.aload_n 0, 1) := by decide +kernel
theorem dX11_readCond_10 : decode cX11_readCond 10 = .ok (.ldc 236, 2) := by decide +kernel
theorem dX11_readCond_12 : decode cX11_readCond 12 = .ok (.invokevirtual 219, 3) := by decide +kernel
theorem dX11_readCond_15 : decode cX11_readCond 15 = .ok (.ifCond .eq 22, 3) := by decide +kernel
theorem dX11_readCond_18 : decode cX11_readCond 18 = .ok (.aload_n 0, 1) := by decide +kernel
theorem dX11_readCond_19 : decode cX11_readCond 19 = .ok (.invokevirtual 233, 3) := by decide +kernel
theorem dX11_readCond_22 : decode cX11_readCond 22 = .ok (.ifCond .ne 5, 3) := by decide +kernel
theorem dX11_readCond_25 : decode cX11_readCond 25 = .ok (.iconst 0, 1) := by decide +kernel
theorem dX11_readCond_26 : decode cX11_readCond 26 = .ok (.ireturn, 1) := by decide +kernel
theorem dX11_readCond_27 : decode cX11_readCond 27 = .ok (.aload_n 0, 1) := by decide +kernel
theorem dX11_readCond_28 : decode cX11_readCond 28 = .ok (.bipush 17, 2) := by decide +kernel
theorem dX11_readCond_30 : decode cX11_readCond 30 = .ok (.iconst 0, 1) := by decide +kernel
theorem dX11_readCond_31 : decode cX11_readCond 31 = .ok (.invokevirtual 185, 3) := by decide +kernel
theorem dX11_readCond_34 : decode cX11_readCond 34 = .ok (.goto (-25), 3) := by decide +kernel
theorem dX11_readCond_37 : decode cX11_readCond 37 = .ok (.iconst 1, 1) := by decide +kernel
theorem dX11_readCond_38 : decode cX11_readCond 38 = .ok (.ireturn, 1) := by decide +kernel
theorem lv_RX11_233 : gLv RX11 233 RX11 yX11_readAllOf cX11_readAllOf 1 (some .boolean) 0 := gLv_of (wA_t (wt7 (List.mem_of_getElem? (i := 191) (by decide +kernel))) (by decide +kernel)) (wA_t (wt7 (List.mem_of_getElem? (i := 193) (by decide +kernel))) (by decide +kernel)) (wA_of (List.mem_append_left _ (List.mem_map.mpr ⟨(⟨"YearRopeModel", "readAllOf", "()Z"⟩, 20), wp5 (List.mem_of_getElem? (i := 4) (by decide +kernel)), rfl⟩)) (by decide +kernel)) (wA_t (wt1 (List.mem_of_getElem? (i := 12) (by decide +kernel))) (by decide +kernel)) (wA_t (wt7 (List.mem_of_getElem? (i := 194) (by decide +kernel))) (by decide +kernel)) ⟨rfl, by decide +kernel, by decide +kernel, by decide +kernel⟩
def b_X11_readCond_9 (τ : gτ) (n : Nat) (F : Nat → Nat → gG → Option (Int32 × gG)) (x0 : Nat) (G : gG) : Option ((gG) ⊕ ((gG) ⊕ (gG))) :=
  gBind2 (f_X11_passes τ n x0 s_or G) fun v4 G5 =>
  if v4 = 0 then (some (.inr (.inl G5)))
  else (gBind2 (F 1 x0 G5) fun v6 G7 =>
  if v6 = 0 then (some (.inr (.inr G7)))
  else ((f_X11_emits τ x0 (17 : Int32) (0 : Int32) G7).bind fun G8 =>
  some (.inl G8)))
def l_X11_readCond_9 (τ : gτ) (n : Nat) (F : Nat → Nat → gG → Option (Int32 × gG)) (x0 : Nat) (G : gG) : Option ((gG) ⊕ (gG)) :=
  gIter (fun (q : gG) => b_X11_readCond_9 τ n F x0 q) n G
def e_X11_readCond (τ : gτ) (n : Nat) (F : Nat → Nat → gG → Option (Int32 × gG)) (x0 : Nat) (G : gG) : Option (Int32 × gG) :=
  gBind2 (F 1 x0 G) fun v1 G2 =>
  if v1 = 0 then (some (0, G2))
  else ((l_X11_readCond_9 τ n F x0 G2).bind fun q => match q with
  | .inl q => gLet q fun G9 => (some (1, G9))
  | .inr q => (gLet q fun G10 => some (0, G10)))
set_option maxHeartbeats 4000000 in
set_option maxRecDepth 100000 in
theorem w_b_X11_readCond_9 {X : gX} {τ : gτ} {p : Program} {l : Launch} {e : Env} {s : State} {m : MethodId} {args : Array Value} {below : List Frame} {meth : Method} {c : Code} (fx : gFx X p s m args meth c cX11_readCond 1 RX11) (hS : gS0 l X) (F : Nat → Nat → gG → Option (Int32 × gG)) (d : Nat) (hF0 : ∀ (x0 : Nat) (G : gG) (r : Int32) (G' : gG), gK τ x0 11 → F 0 x0 G = some (r, G') → gM l X τ yX11_readCond cX11_readCond 1 (some .boolean) (rm_r_X11 d) [.ref x0] G (some (.int r)) G') (hF1 : ∀ (x0 : Nat) (G : gG) (r : Int32) (G' : gG), gK τ x0 11 → F 1 x0 G = some (r, G') → gM l X τ yX11_readAllOf cX11_readAllOf 1 (some .boolean) (rm_r_X11 d) [.ref x0] G (some (.int r)) G') (hF2 : ∀ (x0 : Nat) (G : gG) (r : Int32) (G' : gG), gK τ x0 11 → F 2 x0 G = some (r, G') → gM l X τ yX11_readAtom cX11_readAtom 2 (some .boolean) (rm_r_X11 d) [.ref x0] G (some (.int r)) G')  (n : Nat) (x0 : Nat) (h0 : gK τ x0 11) {Q : State → Prop} {K : ((gG) ⊕ ((gG) ⊕ (gG))) → Prop} {G : gG} {H : Heap} {locs : List Loc} {ls : Array Slot} (hw : gHw X τ G H locs) (hl : lv_has ls 1 [(0, .ref x0)]) (hok : gOk (b_X11_readCond_9 τ n F x0 G) K) (hc : ∀ (G : gG) (H : Heap) (locs : List Loc) (ls : Array Slot), gHw X τ G H locs → lv_has ls 1 [(0, .ref x0)] → K (.inl G) → W p l e (rm_r_X11 (d + 1)) s m args below meth c H locs 0 0 Q (F0 m 9 ls [])) (hx0 : ∀ (G : gG) (H : Heap) (locs : List Loc) (ls : Array Slot), gHw X τ G H locs → lv_has ls 1 [] → K (.inr (.inl G)) → W p l e (rm_r_X11 (d + 1)) s m args below meth c H locs 0 0 Q (F0 m 37 ls [])) (hx1 : ∀ (G : gG) (H : Heap) (locs : List Loc) (ls : Array Slot), gHw X τ G H locs → lv_has ls 1 [] → K (.inr (.inr G)) → W p l e (rm_r_X11 (d + 1)) s m args below meth c H locs 0 0 Q (F0 m 25 ls [])) : W p l e (rm_r_X11 (d + 1)) s m args below meth c H locs 0 0 Q (F0 m 9 ls []) := by
  unfold b_X11_readCond_9 at hok
  refine lv_aload_n fx.1 fx.2.1 dX11_readCond_9 rfl (lv_at hl 0 rfl) ?_
  refine g_ldcS fx hS gt_RX11_236 dX11_readCond_10 (fun w3 h_w3 => ?_)
  obtain ⟨v4, G5, hf, hok⟩ := gOk_bind2 hok
  refine g_callV0 (κ := 11) fx hw (c_X11_passes l X τ n hS x0 s_or G h0 h_w3 hf) lv_RX11_219 ⟨rfl, rfl⟩ rfl rfl h0 rfl hl.1 rfl ⟨by simp only [rm_r_X11, rm_X11_passes]; omega, by simp only [rm_r_X11, rm_X11_passes]; omega⟩ (Nat.le_of_ble_eq_true rfl) ⟨Nat.zero_le _, Nat.zero_le _⟩ dX11_readCond_12 (fun H locs hw => ?_)
  refine g_if_eq (tgt := 37) fx dX11_readCond_15 (by decide) hok (fun hok => ?_) (fun hok => ?_)
  · exact hx0  G5 _ _ _  hw (lv_sub hl [] rfl) (gOk_some hok)
  · refine lv_aload_n fx.1 fx.2.1 dX11_readCond_18 rfl (lv_at hl 0 rfl) ?_
    obtain ⟨v6, G7, hf, hok⟩ := gOk_bind2 hok
    refine g_callV0 (κ := 11) fx hw (hF1 x0 G5 v6 G7 h0 hf) lv_RX11_233 ⟨rfl, rfl⟩ rfl rfl h0 rfl hl.1 rfl ⟨by simp only [rm_r_X11]; omega, by simp only [rm_r_X11]; omega⟩ (Nat.le_of_ble_eq_true rfl) ⟨Nat.zero_le _, Nat.zero_le _⟩ dX11_readCond_19 (fun H locs hw => ?_)
    refine g_if_ne (tgt := 27) fx dX11_readCond_22 (by decide) hok (fun hok => ?_) (fun hok => ?_)
    · exact hx1  G7 _ _ _  hw (lv_sub hl [] rfl) (gOk_some hok)
    · refine lv_aload_n fx.1 fx.2.1 dX11_readCond_27 rfl (lv_at hl 0 rfl) ?_
      refine lv_bipush (v := 17) fx.1 fx.2.1 dX11_readCond_28 (by decide) ?_
      refine lv_iconst (v := 0) fx.1 fx.2.1 dX11_readCond_30 (by decide) ?_
      obtain ⟨G8, hf, hok⟩ := gOk_bind hok
      refine g_callV0 (κ := 11) fx hw (c_X11_emits l X τ x0 (17 : Int32) (0 : Int32) G7 h0 hf) lv_RX11_185 ⟨rfl, rfl⟩ rfl rfl h0 rfl hl.1 rfl ⟨by simp only [rm_r_X11, rm_X11_emits]; omega, by simp only [rm_r_X11, rm_X11_emits]; omega⟩ (Nat.le_of_ble_eq_true rfl) ⟨Nat.zero_le _, Nat.zero_le _⟩ dX11_readCond_31 (fun H locs hw => ?_)
      refine lv_goto (tgt := 9) fx.1 fx.2.1 dX11_readCond_34 (by decide) ?_
      exact hc  G8 _ _ _  hw (lv_sub hl [0] rfl) (gOk_some hok)
theorem w_l_X11_readCond_9 {X : gX} {τ : gτ} {p : Program} {l : Launch} {e : Env} {s : State} {m : MethodId} {args : Array Value} {below : List Frame} {meth : Method} {c : Code} (fx : gFx X p s m args meth c cX11_readCond 1 RX11) (hS : gS0 l X) (F : Nat → Nat → gG → Option (Int32 × gG)) (d : Nat) (hF0 : ∀ (x0 : Nat) (G : gG) (r : Int32) (G' : gG), gK τ x0 11 → F 0 x0 G = some (r, G') → gM l X τ yX11_readCond cX11_readCond 1 (some .boolean) (rm_r_X11 d) [.ref x0] G (some (.int r)) G') (hF1 : ∀ (x0 : Nat) (G : gG) (r : Int32) (G' : gG), gK τ x0 11 → F 1 x0 G = some (r, G') → gM l X τ yX11_readAllOf cX11_readAllOf 1 (some .boolean) (rm_r_X11 d) [.ref x0] G (some (.int r)) G') (hF2 : ∀ (x0 : Nat) (G : gG) (r : Int32) (G' : gG), gK τ x0 11 → F 2 x0 G = some (r, G') → gM l X τ yX11_readAtom cX11_readAtom 2 (some .boolean) (rm_r_X11 d) [.ref x0] G (some (.int r)) G')  (n : Nat) (x0 : Nat) (h0 : gK τ x0 11) {Q : State → Prop} {K : ((gG) ⊕ (gG)) → Prop} (hx0 : ∀ (G : gG) (H : Heap) (locs : List Loc) (ls : Array Slot), gHw X τ G H locs → lv_has ls 1 [] → K (.inl G) → W p l e (rm_r_X11 (d + 1)) s m args below meth c H locs 0 0 Q (F0 m 37 ls [])) (hx1 : ∀ (G : gG) (H : Heap) (locs : List Loc) (ls : Array Slot), gHw X τ G H locs → lv_has ls 1 [] → K (.inr G) → W p l e (rm_r_X11 (d + 1)) s m args below meth c H locs 0 0 Q (F0 m 25 ls [])) : ∀ (k : Nat) (G : gG) (H : Heap) (locs : List Loc) (ls : Array Slot), gHw X τ G H locs → lv_has ls 1 [(0, .ref x0)] → gOk (gIter (fun (q : gG) => b_X11_readCond_9 τ n F x0 q) k G) K → W p l e (rm_r_X11 (d + 1)) s m args below meth c H locs 0 0 Q (F0 m 9 ls []) := by
  intro k
  induction k with
  | zero =>
    intro G H locs ls hw hl hok
    exact gOk_iter0 hok
  | succ k hc =>
    intro G H locs ls hw hl hok
    exact w_b_X11_readCond_9 fx hS F d hF0 hF1 hF2 n x0 h0 hw hl (gOk_iter hok) hc hx0 hx1
set_option maxHeartbeats 4000000 in
set_option maxRecDepth 100000 in
theorem ce_X11_readCond (l : Launch) (X : gX) (τ : gτ) (n : Nat) (hS : gS0 l X) (F : Nat → Nat → gG → Option (Int32 × gG)) (d : Nat) (hF0 : ∀ (x0 : Nat) (G : gG) (r : Int32) (G' : gG), gK τ x0 11 → F 0 x0 G = some (r, G') → gM l X τ yX11_readCond cX11_readCond 1 (some .boolean) (rm_r_X11 d) [.ref x0] G (some (.int r)) G') (hF1 : ∀ (x0 : Nat) (G : gG) (r : Int32) (G' : gG), gK τ x0 11 → F 1 x0 G = some (r, G') → gM l X τ yX11_readAllOf cX11_readAllOf 1 (some .boolean) (rm_r_X11 d) [.ref x0] G (some (.int r)) G') (hF2 : ∀ (x0 : Nat) (G : gG) (r : Int32) (G' : gG), gK τ x0 11 → F 2 x0 G = some (r, G') → gM l X τ yX11_readAtom cX11_readAtom 2 (some .boolean) (rm_r_X11 d) [.ref x0] G (some (.int r)) G')  (x0 : Nat) (G : gG) (h0 : gK τ x0 11) {r : Int32} {G' : gG} (h : e_X11_readCond τ n F x0 G = some (r, G')) : gM l X τ yX11_readCond cX11_readCond 1 (some .boolean) (rm_r_X11 (d + 1)) [.ref x0] G (some (.int r)) G' := by
  refine g_body (by decide +kernel) (Nat.le_of_ble_eq_true rfl) ?_
  intro p e s m args below meth c ls fx hr hw hl
  have fx : gFx X p s m args meth c cX11_readCond 1 RX11 := fx
  have hl : lv_has ls 1 [(0, .ref x0)] := hl
  have hok : gOk (e_X11_readCond τ n F x0 G) (fun q => q = (r, G')) := ⟨_, h, rfl⟩
  unfold e_X11_readCond at hok
  show W p l e (rm_r_X11 (d + 1)) s m args below meth c s.heap [] 0 0 (MQ below (gQ X τ (some (.int r)) G') args s 0 0 (gFree X)) _
  refine lv_aload_n fx.1 fx.2.1 dX11_readCond_0 rfl (lv_at hl 0 rfl) ?_
  obtain ⟨v1, G2, hf, hok⟩ := gOk_bind2 hok
  refine g_callV0 (κ := 11) fx hw (hF1 x0 G v1 G2 h0 hf) lv_RX11_233 ⟨rfl, rfl⟩ rfl rfl h0 rfl hl.1 rfl ⟨by simp only [rm_r_X11]; omega, by simp only [rm_r_X11]; omega⟩ (Nat.le_of_ble_eq_true rfl) ⟨Nat.zero_le _, Nat.zero_le _⟩ dX11_readCond_1 (fun H locs hw => ?_)
  refine g_if_ne (tgt := 9) fx dX11_readCond_4 (by decide) hok (fun hok => ?_) (fun hok => ?_)
  · refine lv_iconst (v := 0) fx.1 fx.2.1 dX11_readCond_7 (by decide) ?_
    cases gOk_some hok
    exact g_zret fx hw hr (by decide) dX11_readCond_8
  · refine w_l_X11_readCond_9 fx hS F d hF0 hF1 hF2 n x0 h0 ?_ ?_ n  G2 _ _ _  hw (lv_sub hl [0] rfl) (gOk_bindK hok)
    · intro G9 H locs ls hw hl hok
      have hok : gOk (ρ := Int32 × gG) (some (1, G9)) _ := hok
      refine lv_iconst (v := 1) fx.1 fx.2.1 dX11_readCond_37 (by decide) ?_
      cases gOk_some hok
      exact g_zret fx hw hr (by decide) dX11_readCond_38
    · intro G10 H locs ls hw hl hok
      have hok : gOk (ρ := Int32 × gG) (some (0, G10)) _ := hok
      refine lv_iconst (v := 0) fx.1 fx.2.1 dX11_readCond_25 (by decide) ?_
      cases gOk_some hok
      exact g_zret fx hw hr (by decide) dX11_readCond_26
theorem dX11_readAtom_0 : decode cX11_readAtom 0 = .ok (.aload_n 0, 1) := by decide +kernel
theorem dX11_readAtom_1 : decode cX11_readAtom 1 = .ok (.bipush 40, 2) := by decide +kernel
theorem dX11_readAtom_3 : decode cX11_readAtom 3 = .ok (.invokevirtual 204, 3) := by decide +kernel
theorem dX11_readAtom_6 : decode cX11_readAtom 6 = .ok (.ifCond .eq 50, 3) := by decide +kernel
theorem dX11_readAtom_9 : decode cX11_readAtom 9 = .ok (.aload_n 0, 1) := by decide +kernel
theorem dX11_readAtom_10 : decode cX11_readAtom 10 = .ok (.getfield 211, 3) := by decide +kernel
theorem dX11_readAtom_13 : decode cX11_readAtom 13 = .ok (.bipush 6, 2) := by decide +kernel
theorem dX11_readAtom_15 : decode cX11_readAtom 15 = .ok (.if_icmp .ne 5, 3) := by decide +kernel
theorem dX11_readAtom_18 : decode cX11_readAtom 18 = .ok (.iconst 0, 1) := by decide +kernel
theorem dX11_readAtom_19 : decode cX11_readAtom 19 = .ok (.ireturn, 1) := by decide +kernel
theorem dX11_readAtom_20 : decode cX11_readAtom 20 = .ok (.aload_n 0, 1) := by decide +kernel
theorem dX11_readAtom_21 : decode cX11_readAtom 21 = .ok (.dup, 1) := by decide +kernel
theorem dX11_readAtom_22 : decode cX11_readAtom 22 = .ok (.getfield 211, 3) := by decide +kernel
theorem dX11_readAtom_25 : decode cX11_readAtom 25 = .ok (.iconst 1, 1) := by decide +kernel
theorem dX11_readAtom_26 : decode cX11_readAtom 26 = .ok (.iadd, 1) := by decide +kernel
theorem dX11_readAtom_27 : decode cX11_readAtom 27 = .ok (.putfield 211, 3) := by decide +kernel
theorem dX11_readAtom_30 : decode cX11_readAtom 30 = .ok (.aload_n 0, 1) := by decide +kernel
theorem dX11_readAtom_31 : decode cX11_readAtom 31 = .ok (.invokevirtual 214, 3) := by decide +kernel
theorem dX11_readAtom_34 : decode cX11_readAtom 34 = .ok (.ifCond .ne 5, 3) := by decide +kernel
theorem dX11_readAtom_37 : decode cX11_readAtom 37 = .ok (.iconst 0, 1) := by decide +kernel
theorem dX11_readAtom_38 : decode cX11_readAtom 38 = .ok (.ireturn, 1) := by decide +kernel
theorem dX11_readAtom_39 : decode cX11_readAtom 39 = .ok (.aload_n 0, 1) := by decide +kernel
theorem dX11_readAtom_40 : decode cX11_readAtom 40 = .ok (.dup, 1) := by decide +kernel
theorem dX11_readAtom_41 : decode cX11_readAtom 41 = .ok (.getfield 211, 3) := by decide +kernel
theorem dX11_readAtom_44 : decode cX11_readAtom 44 = .ok (.iconst 1, 1) := by decide +kernel
theorem dX11_readAtom_45 : decode cX11_readAtom 45 = .ok (.isub, 1) := by decide +kernel
theorem dX11_readAtom_46 : decode cX11_readAtom 46 = .ok (.putfield 211, 3) := by decide +kernel
theorem dX11_readAtom_49 : decode cX11_readAtom 49 = .ok (.aload_n 0, 1) := by decide +kernel
theorem dX11_readAtom_50 : decode cX11_readAtom 50 = .ok (.bipush 41, 2) := by decide +kernel
theorem dX11_readAtom_52 : decode cX11_readAtom 52 = .ok (.invokevirtual 204, 3) := by decide +kernel
theorem dX11_readAtom_55 : decode cX11_readAtom 55 = .ok (.ireturn, 1) := by decide +kernel
theorem dX11_readAtom_56 : decode cX11_readAtom 56 = .ok (.aload_n 0, 1) := by decide +kernel
theorem dX11_readAtom_57 : decode cX11_readAtom 57 = .ok (.ldc 217, 2) := by decide +kernel
theorem dX11_readAtom_59 : decode cX11_readAtom 59 = .ok (.invokevirtual 219, 3) := by decide +kernel
theorem dX11_readAtom_62 : decode cX11_readAtom 62 = .ok (.ifCond .eq 52, 3) := by decide +kernel
theorem dX11_readAtom_65 : decode cX11_readAtom 65 = .ok (.aload_n 0, 1) := by decide +kernel
theorem dX11_readAtom_66 : decode cX11_readAtom 66 = .ok (.getfield 211, 3) := by decide +kernel
theorem dX11_readAtom_69 : decode cX11_readAtom 69 = .ok (.bipush 6, 2) := by decide +kernel
theorem dX11_readAtom_71 : decode cX11_readAtom 71 = .ok (.if_icmp .ne 5, 3) := by decide +kernel
theorem dX11_readAtom_74 : decode cX11_readAtom 74 = .ok (.iconst 0, 1) := by decide +kernel
theorem dX11_readAtom_75 : decode cX11_readAtom 75 = .ok (.ireturn, 1) := by decide +kernel
theorem dX11_readAtom_76 : decode cX11_readAtom 76 = .ok (.aload_n 0, 1) := by decide +kernel
theorem dX11_readAtom_77 : decode cX11_readAtom 77 = .ok (.dup, 1) := by decide +kernel
theorem dX11_readAtom_78 : decode cX11_readAtom 78 = .ok (.getfield 211, 3) := by decide +kernel
theorem dX11_readAtom_81 : decode cX11_readAtom 81 = .ok (.iconst 1, 1) := by decide +kernel
theorem dX11_readAtom_82 : decode cX11_readAtom 82 = .ok (.iadd, 1) := by decide +kernel
theorem dX11_readAtom_83 : decode cX11_readAtom 83 = .ok (.putfield 211, 3) := by decide +kernel
theorem dX11_readAtom_86 : decode cX11_readAtom 86 = .ok (.aload_n 0, 1) := by decide +kernel
theorem dX11_readAtom_87 : decode cX11_readAtom 87 = .ok (.invokevirtual 222, 3) := by decide +kernel
theorem dX11_readAtom_90 : decode cX11_readAtom 90 = .ok (.ifCond .ne 5, 3) := by decide +kernel
theorem dX11_readAtom_93 : decode cX11_readAtom 93 = .ok (.iconst 0, 1) := by decide +kernel
theorem dX11_readAtom_94 : decode cX11_readAtom 94 = .ok (.ireturn, 1) := by decide +kernel
theorem dX11_readAtom_95 : decode cX11_readAtom 95 = .ok (.aload_n 0, 1) := by decide +kernel
theorem dX11_readAtom_96 : decode cX11_readAtom 96 = .ok (.dup, 1) := by decide +kernel
theorem dX11_readAtom_97 : decode cX11_readAtom 97 = .ok (.getfield 211, 3) := by decide +kernel
theorem dX11_readAtom_100 : decode cX11_readAtom 100 = .ok (.iconst 1, 1) := by decide +kernel
theorem dX11_readAtom_101 : decode cX11_readAtom 101 = .ok (.isub, 1) := by decide +kernel
theorem dX11_readAtom_102 : decode cX11_readAtom 102 = .ok (.putfield 211, 3) := by decide +kernel
theorem dX11_readAtom_105 : decode cX11_readAtom 105 = .ok (.aload_n 0, 1) := by decide +kernel
theorem dX11_readAtom_106 : decode cX11_readAtom 106 = .ok (.bipush 15, 2) := by decide +kernel
theorem dX11_readAtom_108 : decode cX11_readAtom 108 = .ok (.iconst 0, 1) := by decide +kernel
theorem dX11_readAtom_109 : decode cX11_readAtom 109 = .ok (.invokevirtual 185, 3) := by decide +kernel
theorem dX11_readAtom_112 : decode cX11_readAtom 112 = .ok (.iconst 1, 1) := by decide +kernel
theorem dX11_readAtom_113 : decode cX11_readAtom 113 = .ok (.ireturn, 1) := by decide +kernel
theorem dX11_readAtom_114 : decode cX11_readAtom 114 = .ok (.aload_n 0, 1) := by decide +kernel
theorem dX11_readAtom_115 : decode cX11_readAtom 115 = .ok (.invokevirtual 225, 3) := by decide +kernel
theorem dX11_readAtom_118 : decode cX11_readAtom 118 = .ok (.ifCond .eq 5, 3) := by decide +kernel
theorem dX11_readAtom_121 : decode cX11_readAtom 121 = .ok (.iconst 1, 1) := by decide +kernel
theorem dX11_readAtom_122 : decode cX11_readAtom 122 = .ok (.ireturn, 1) := by decide +kernel
theorem dX11_readAtom_123 : decode cX11_readAtom 123 = .ok (.aload_n 0, 1) := by decide +kernel
theorem dX11_readAtom_124 : decode cX11_readAtom 124 = .ok (.invokevirtual 228, 3) := by decide +kernel
theorem dX11_readAtom_127 : decode cX11_readAtom 127 = .ok (.ifCond .ne 5, 3) := by decide +kernel
theorem dX11_readAtom_130 : decode cX11_readAtom 130 = .ok (.iconst 0, 1) := by decide +kernel
theorem dX11_readAtom_131 : decode cX11_readAtom 131 = .ok (.ireturn, 1) := by decide +kernel
theorem dX11_readAtom_132 : decode cX11_readAtom 132 = .ok (.aload_n 0, 1) := by decide +kernel
theorem dX11_readAtom_133 : decode cX11_readAtom 133 = .ok (.bipush 60, 2) := by decide +kernel
theorem dX11_readAtom_135 : decode cX11_readAtom 135 = .ok (.invokevirtual 204, 3) := by decide +kernel
theorem dX11_readAtom_138 : decode cX11_readAtom 138 = .ok (.istore_n 1, 1) := by decide +kernel
theorem dX11_readAtom_139 : decode cX11_readAtom 139 = .ok (.iload_n 1, 1) := by decide +kernel
theorem dX11_readAtom_140 : decode cX11_readAtom 140 = .ok (.ifCond .ne 12, 3) := by decide +kernel
theorem dX11_readAtom_143 : decode cX11_readAtom 143 = .ok (.aload_n 0, 1) := by decide +kernel
theorem dX11_readAtom_144 : decode cX11_readAtom 144 = .ok (.bipush 62, 2) := by decide +kernel
theorem dX11_readAtom_146 : decode cX11_readAtom 146 = .ok (.invokevirtual 204, 3) := by decide +kernel
theorem dX11_readAtom_149 : decode cX11_readAtom 149 = .ok (.ifCond .eq 10, 3) := by decide +kernel
theorem dX11_readAtom_152 : decode cX11_readAtom 152 = .ok (.aload_n 0, 1) := by decide +kernel
theorem dX11_readAtom_153 : decode cX11_readAtom 153 = .ok (.invokevirtual 228, 3) := by decide +kernel
theorem dX11_readAtom_156 : decode cX11_readAtom 156 = .ok (.ifCond .ne 5, 3) := by decide +kernel
theorem dX11_readAtom_159 : decode cX11_readAtom 159 = .ok (.iconst 0, 1) := by decide +kernel
theorem dX11_readAtom_160 : decode cX11_readAtom 160 = .ok (.ireturn, 1) := by decide +kernel
theorem dX11_readAtom_161 : decode cX11_readAtom 161 = .ok (.aload_n 0, 1) := by decide +kernel
theorem dX11_readAtom_162 : decode cX11_readAtom 162 = .ok (.iload_n 1, 1) := by decide +kernel
theorem dX11_readAtom_163 : decode cX11_readAtom 163 = .ok (.ifCond .eq 8, 3) := by decide +kernel
theorem dX11_readAtom_166 : decode cX11_readAtom 166 = .ok (.bipush 13, 2) := by decide +kernel
theorem dX11_readAtom_168 : decode cX11_readAtom 168 = .ok (.goto 5, 3) := by decide +kernel
theorem dX11_readAtom_171 : decode cX11_readAtom 171 = .ok (.bipush 14, 2) := by decide +kernel
theorem dX11_readAtom_173 : decode cX11_readAtom 173 = .ok (.iconst 0, 1) := by decide +kernel
theorem dX11_readAtom_174 : decode cX11_readAtom 174 = .ok (.invokevirtual 185, 3) := by decide +kernel
theorem dX11_readAtom_177 : decode cX11_readAtom 177 = .ok (.iconst 1, 1) := by decide +kernel
theorem dX11_readAtom_178 : decode cX11_readAtom 178 = .ok (.ireturn, 1) := by decide +kernel
theorem lv_RX11_225 : gLv RX11 225 RX11 yX11_readTag cX11_readTag 2 (some .boolean) 0 := gLv_of (wA_t (wt7 (List.mem_of_getElem? (i := 208) (by decide +kernel))) (by decide +kernel)) (wA_t (wt7 (List.mem_of_getElem? (i := 210) (by decide +kernel))) (by decide +kernel)) (wA_of (List.mem_append_left _ (List.mem_map.mpr ⟨(⟨"YearRopeModel", "readTag", "()Z"⟩, 20), wp5 (List.mem_of_getElem? (i := 8) (by decide +kernel)), rfl⟩)) (by decide +kernel)) (wA_t (wt1 (List.mem_of_getElem? (i := 12) (by decide +kernel))) (by decide +kernel)) (wA_t (wt7 (List.mem_of_getElem? (i := 211) (by decide +kernel))) (by decide +kernel)) ⟨rfl, by decide +kernel, by decide +kernel, by decide +kernel⟩
theorem lv_RX11_228 : gLv RX11 228 RX11 yX11_readSum cX11_readSum 1 (some .boolean) 0 := gLv_of (wA_t (wt7 (List.mem_of_getElem? (i := 214) (by decide +kernel))) (by decide +kernel)) (wA_t (wt7 (List.mem_of_getElem? (i := 216) (by decide +kernel))) (by decide +kernel)) (wA_of (List.mem_append_left _ (List.mem_map.mpr ⟨(⟨"YearRopeModel", "readSum", "()Z"⟩, 20), wp5 (List.mem_of_getElem? (i := 9) (by decide +kernel)), rfl⟩)) (by decide +kernel)) (wA_t (wt1 (List.mem_of_getElem? (i := 12) (by decide +kernel))) (by decide +kernel)) (wA_t (wt7 (List.mem_of_getElem? (i := 217) (by decide +kernel))) (by decide +kernel)) ⟨rfl, by decide +kernel, by decide +kernel, by decide +kernel⟩
theorem lf_RX11_211 : gLf RX11 211 11 13 := ⟨(RX11, TX11, 20), rfl, by decide, wA_t (wt6 (List.mem_of_getElem? (i := 226) (by decide +kernel))) (by decide +kernel), rfl⟩
theorem lp_RX11_211 : gLp RX11 211 11 13 := ⟨(RX11, TX11, 20), rfl, by decide, wA_t (wt6 (List.mem_of_getElem? (i := 226) (by decide +kernel))) (by decide +kernel), rfl, rfl⟩
theorem lv_RX11_214 : gLv RX11 214 RX11 yX11_readCond cX11_readCond 1 (some .boolean) 0 := gLv_of (wA_t (wt7 (List.mem_of_getElem? (i := 187) (by decide +kernel))) (by decide +kernel)) (wA_t (wt7 (List.mem_of_getElem? (i := 189) (by decide +kernel))) (by decide +kernel)) (wA_of (List.mem_append_left _ (List.mem_map.mpr ⟨(⟨"YearRopeModel", "readCond", "()Z"⟩, 20), wp5 (List.mem_of_getElem? (i := 3) (by decide +kernel)), rfl⟩)) (by decide +kernel)) (wA_t (wt1 (List.mem_of_getElem? (i := 12) (by decide +kernel))) (by decide +kernel)) (wA_t (wt7 (List.mem_of_getElem? (i := 190) (by decide +kernel))) (by decide +kernel)) ⟨rfl, by decide +kernel, by decide +kernel, by decide +kernel⟩
def k_X11_readAtom_173 (τ : gτ) (n : Nat) (F : Nat → Nat → gG → Option (Int32 × gG))  (s0 : Nat) (s1 : Int32) (G : gG) : Option (Int32 × gG) :=
  (f_X11_emits τ s0 s1 (0 : Int32) G).bind fun G16 =>
  some (1, G16)
def k_X11_readAtom_152 (τ : gτ) (n : Nat) (F : Nat → Nat → gG → Option (Int32 × gG)) (x0 : Nat) (x1 : Int32)  (G : gG) : Option (Int32 × gG) :=
  gBind2 (f_X11_readSum τ n x0 G) fun v14 G15 =>
  if v14 = 0 then (some (0, G15))
  else (if x1 = 0 then (k_X11_readAtom_173 τ n F  x0 (14 : Int32) G15)
  else (k_X11_readAtom_173 τ n F  x0 (13 : Int32) G15))
def e_X11_readAtom (τ : gτ) (n : Nat) (F : Nat → Nat → gG → Option (Int32 × gG)) (x0 : Nat) (G : gG) : Option (Int32 × gG) :=
  gBind2 (f_X11_sign τ n x0 (40 : Int32) G) fun v1 G2 =>
  if v1 = 0 then (gBind2 (f_X11_passes τ n x0 s_not G2) fun v4 G5 =>
  if v4 = 0 then (gBind2 (f_X11_readTag τ n x0 G5) fun v6 G7 =>
  if v6 = 0 then (gBind2 (f_X11_readSum τ n x0 G7) fun v8 G9 =>
  if v8 = 0 then (some (0, G9))
  else (gBind2 (f_X11_sign τ n x0 (60 : Int32) G9) fun v10 G11 =>
  if v10 = 0 then (gBind2 (f_X11_sign τ n x0 (62 : Int32) G11) fun v12 G13 =>
  if v12 = 0 then (some (0, G13))
  else (k_X11_readAtom_152 τ n F x0 v10  G13))
  else (k_X11_readAtom_152 τ n F x0 v10  G11)))
  else (some (1, G7)))
  else (if (gi G5 11 13 x0) = (6 : Int32) then (some (0, G5))
  else (gLet (gsi G5 11 13 x0 ((gi G5 11 13 x0) + (1 : Int32))) fun G17 =>
  gBind2 (F 2 x0 G17) fun v18 G19 =>
  if v18 = 0 then (some (0, G19))
  else (gLet (gsi G19 11 13 x0 ((gi G19 11 13 x0) - (1 : Int32))) fun G20 =>
  (f_X11_emits τ x0 (15 : Int32) (0 : Int32) G20).bind fun G21 =>
  some (1, G21)))))
  else (if (gi G2 11 13 x0) = (6 : Int32) then (some (0, G2))
  else (gLet (gsi G2 11 13 x0 ((gi G2 11 13 x0) + (1 : Int32))) fun G22 =>
  gBind2 (F 0 x0 G22) fun v23 G24 =>
  if v23 = 0 then (some (0, G24))
  else (gLet (gsi G24 11 13 x0 ((gi G24 11 13 x0) - (1 : Int32))) fun G25 =>
  gBind2 (f_X11_sign τ n x0 (41 : Int32) G25) fun v26 G27 =>
  gchk (v26 = 0 ∨ v26 = 1) <| some (v26, G27))))
set_option maxHeartbeats 4000000 in
set_option maxRecDepth 100000 in
theorem w_X11_readAtom_173 {X : gX} {τ : gτ} {p : Program} {l : Launch} {e : Env} {s : State} {m : MethodId} {args : Array Value} {below : List Frame} {meth : Method} {c : Code} (fx : gFx X p s m args meth c cX11_readAtom 2 RX11) (hS : gS0 l X) (F : Nat → Nat → gG → Option (Int32 × gG)) (d : Nat) (hF0 : ∀ (x0 : Nat) (G : gG) (r : Int32) (G' : gG), gK τ x0 11 → F 0 x0 G = some (r, G') → gM l X τ yX11_readCond cX11_readCond 1 (some .boolean) (rm_r_X11 d) [.ref x0] G (some (.int r)) G') (hF1 : ∀ (x0 : Nat) (G : gG) (r : Int32) (G' : gG), gK τ x0 11 → F 1 x0 G = some (r, G') → gM l X τ yX11_readAllOf cX11_readAllOf 1 (some .boolean) (rm_r_X11 d) [.ref x0] G (some (.int r)) G') (hF2 : ∀ (x0 : Nat) (G : gG) (r : Int32) (G' : gG), gK τ x0 11 → F 2 x0 G = some (r, G') → gM l X τ yX11_readAtom cX11_readAtom 2 (some .boolean) (rm_r_X11 d) [.ref x0] G (some (.int r)) G')  (n : Nat)  (s0 : Nat) (s1 : Int32)  (hs0 : gK τ s0 11) (hr : meth.sig.returnType = (some .boolean)) {r : Int32} {G' : gG} {G : gG} {H : Heap} {locs : List Loc} {ls : Array Slot} (hw : gHw X τ G H locs) (hl : lv_has ls 2 []) (hok : gOk (k_X11_readAtom_173 τ n F  s0 s1 G) (fun q => q = (r, G')))  : W p l e (rm_r_X11 (d + 1)) s m args below meth c H locs 0 0 (MQ below (gQ X τ (some (.int r)) G') args s 0 0 (gFree X)) (F0 m 173 ls [.int s1, .ref s0]) := by
  unfold k_X11_readAtom_173 at hok
  refine lv_iconst (v := 0) fx.1 fx.2.1 dX11_readAtom_173 (by decide) ?_
  obtain ⟨G16, hf, hok⟩ := gOk_bind hok
  refine g_callV0 (κ := 11) fx hw (c_X11_emits l X τ s0 s1 (0 : Int32) G hs0 hf) lv_RX11_185 ⟨rfl, rfl⟩ rfl rfl hs0 rfl hl.1 rfl ⟨by simp only [rm_r_X11, rm_X11_emits]; omega, by simp only [rm_r_X11, rm_X11_emits]; omega⟩ (Nat.le_of_ble_eq_true rfl) ⟨Nat.zero_le _, Nat.zero_le _⟩ dX11_readAtom_174 (fun H locs hw => ?_)
  refine lv_iconst (v := 1) fx.1 fx.2.1 dX11_readAtom_177 (by decide) ?_
  cases gOk_some hok
  exact g_zret fx hw hr (by decide) dX11_readAtom_178
set_option maxHeartbeats 4000000 in
set_option maxRecDepth 100000 in
theorem w_X11_readAtom_152 {X : gX} {τ : gτ} {p : Program} {l : Launch} {e : Env} {s : State} {m : MethodId} {args : Array Value} {below : List Frame} {meth : Method} {c : Code} (fx : gFx X p s m args meth c cX11_readAtom 2 RX11) (hS : gS0 l X) (F : Nat → Nat → gG → Option (Int32 × gG)) (d : Nat) (hF0 : ∀ (x0 : Nat) (G : gG) (r : Int32) (G' : gG), gK τ x0 11 → F 0 x0 G = some (r, G') → gM l X τ yX11_readCond cX11_readCond 1 (some .boolean) (rm_r_X11 d) [.ref x0] G (some (.int r)) G') (hF1 : ∀ (x0 : Nat) (G : gG) (r : Int32) (G' : gG), gK τ x0 11 → F 1 x0 G = some (r, G') → gM l X τ yX11_readAllOf cX11_readAllOf 1 (some .boolean) (rm_r_X11 d) [.ref x0] G (some (.int r)) G') (hF2 : ∀ (x0 : Nat) (G : gG) (r : Int32) (G' : gG), gK τ x0 11 → F 2 x0 G = some (r, G') → gM l X τ yX11_readAtom cX11_readAtom 2 (some .boolean) (rm_r_X11 d) [.ref x0] G (some (.int r)) G')  (n : Nat) (x0 : Nat) (x1 : Int32)  (h0 : gK τ x0 11)  (hr : meth.sig.returnType = (some .boolean)) {r : Int32} {G' : gG} {G : gG} {H : Heap} {locs : List Loc} {ls : Array Slot} (hw : gHw X τ G H locs) (hl : lv_has ls 2 [(0, .ref x0), (1, .int x1)]) (hok : gOk (k_X11_readAtom_152 τ n F x0 x1  G) (fun q => q = (r, G')))  : W p l e (rm_r_X11 (d + 1)) s m args below meth c H locs 0 0 (MQ below (gQ X τ (some (.int r)) G') args s 0 0 (gFree X)) (F0 m 152 ls []) := by
  unfold k_X11_readAtom_152 at hok
  refine lv_aload_n fx.1 fx.2.1 dX11_readAtom_152 rfl (lv_at hl 0 rfl) ?_
  obtain ⟨v14, G15, hf, hok⟩ := gOk_bind2 hok
  refine g_callV0 (κ := 11) fx hw (c_X11_readSum l X τ n hS x0 G h0 hf) lv_RX11_228 ⟨rfl, rfl⟩ rfl rfl h0 rfl hl.1 rfl ⟨by simp only [rm_r_X11, rm_X11_readSum]; omega, by simp only [rm_r_X11, rm_X11_readSum]; omega⟩ (Nat.le_of_ble_eq_true rfl) ⟨Nat.zero_le _, Nat.zero_le _⟩ dX11_readAtom_153 (fun H locs hw => ?_)
  refine g_if_ne (tgt := 161) fx dX11_readAtom_156 (by decide) hok (fun hok => ?_) (fun hok => ?_)
  · refine lv_iconst (v := 0) fx.1 fx.2.1 dX11_readAtom_159 (by decide) ?_
    cases gOk_some hok
    exact g_zret fx hw hr (by decide) dX11_readAtom_160
  · refine lv_aload_n fx.1 fx.2.1 dX11_readAtom_161 rfl (lv_at hl 0 rfl) ?_
    refine lv_iload_n fx.1 fx.2.1 dX11_readAtom_162 rfl (lv_at hl 1 rfl) ?_
    refine g_if_eq (tgt := 171) fx dX11_readAtom_163 (by decide) hok (fun hok => ?_) (fun hok => ?_)
    · refine lv_bipush (v := 14) fx.1 fx.2.1 dX11_readAtom_171 (by decide) ?_
      exact w_X11_readAtom_173 fx hS F d hF0 hF1 hF2 n  x0 (14 : Int32)  h0 hr hw (lv_sub hl [] rfl) hok
    · refine lv_bipush (v := 13) fx.1 fx.2.1 dX11_readAtom_166 (by decide) ?_
      refine lv_goto (tgt := 173) fx.1 fx.2.1 dX11_readAtom_168 (by decide) ?_
      exact w_X11_readAtom_173 fx hS F d hF0 hF1 hF2 n  x0 (13 : Int32)  h0 hr hw (lv_sub hl [] rfl) hok
set_option maxHeartbeats 4000000 in
set_option maxRecDepth 100000 in
theorem ce_X11_readAtom (l : Launch) (X : gX) (τ : gτ) (n : Nat) (hS : gS0 l X) (F : Nat → Nat → gG → Option (Int32 × gG)) (d : Nat) (hF0 : ∀ (x0 : Nat) (G : gG) (r : Int32) (G' : gG), gK τ x0 11 → F 0 x0 G = some (r, G') → gM l X τ yX11_readCond cX11_readCond 1 (some .boolean) (rm_r_X11 d) [.ref x0] G (some (.int r)) G') (hF1 : ∀ (x0 : Nat) (G : gG) (r : Int32) (G' : gG), gK τ x0 11 → F 1 x0 G = some (r, G') → gM l X τ yX11_readAllOf cX11_readAllOf 1 (some .boolean) (rm_r_X11 d) [.ref x0] G (some (.int r)) G') (hF2 : ∀ (x0 : Nat) (G : gG) (r : Int32) (G' : gG), gK τ x0 11 → F 2 x0 G = some (r, G') → gM l X τ yX11_readAtom cX11_readAtom 2 (some .boolean) (rm_r_X11 d) [.ref x0] G (some (.int r)) G')  (x0 : Nat) (G : gG) (h0 : gK τ x0 11) {r : Int32} {G' : gG} (h : e_X11_readAtom τ n F x0 G = some (r, G')) : gM l X τ yX11_readAtom cX11_readAtom 2 (some .boolean) (rm_r_X11 (d + 1)) [.ref x0] G (some (.int r)) G' := by
  refine g_body (by decide +kernel) (Nat.le_of_ble_eq_true rfl) ?_
  intro p e s m args below meth c ls fx hr hw hl
  have fx : gFx X p s m args meth c cX11_readAtom 2 RX11 := fx
  have hl : lv_has ls 2 [(0, .ref x0)] := hl
  have hok : gOk (e_X11_readAtom τ n F x0 G) (fun q => q = (r, G')) := ⟨_, h, rfl⟩
  unfold e_X11_readAtom at hok
  show W p l e (rm_r_X11 (d + 1)) s m args below meth c s.heap [] 0 0 (MQ below (gQ X τ (some (.int r)) G') args s 0 0 (gFree X)) _
  refine lv_aload_n fx.1 fx.2.1 dX11_readAtom_0 rfl (lv_at hl 0 rfl) ?_
  refine lv_bipush (v := 40) fx.1 fx.2.1 dX11_readAtom_1 (by decide) ?_
  obtain ⟨v1, G2, hf, hok⟩ := gOk_bind2 hok
  refine g_callV0 (κ := 11) fx hw (c_X11_sign l X τ n x0 (40 : Int32) G h0 hf) lv_RX11_204 ⟨rfl, rfl⟩ rfl rfl h0 rfl hl.1 rfl ⟨by simp only [rm_r_X11, rm_X11_sign]; omega, by simp only [rm_r_X11, rm_X11_sign]; omega⟩ (Nat.le_of_ble_eq_true rfl) ⟨Nat.zero_le _, Nat.zero_le _⟩ dX11_readAtom_3 (fun H locs hw => ?_)
  refine g_if_eq (tgt := 56) fx dX11_readAtom_6 (by decide) hok (fun hok => ?_) (fun hok => ?_)
  · refine lv_aload_n fx.1 fx.2.1 dX11_readAtom_56 rfl (lv_at hl 0 rfl) ?_
    refine g_ldcS fx hS gt_RX11_217 dX11_readAtom_57 (fun w3 h_w3 => ?_)
    obtain ⟨v4, G5, hf, hok⟩ := gOk_bind2 hok
    refine g_callV0 (κ := 11) fx hw (c_X11_passes l X τ n hS x0 s_not G2 h0 h_w3 hf) lv_RX11_219 ⟨rfl, rfl⟩ rfl rfl h0 rfl hl.1 rfl ⟨by simp only [rm_r_X11, rm_X11_passes]; omega, by simp only [rm_r_X11, rm_X11_passes]; omega⟩ (Nat.le_of_ble_eq_true rfl) ⟨Nat.zero_le _, Nat.zero_le _⟩ dX11_readAtom_59 (fun H locs hw => ?_)
    refine g_if_eq (tgt := 114) fx dX11_readAtom_62 (by decide) hok (fun hok => ?_) (fun hok => ?_)
    · refine lv_aload_n fx.1 fx.2.1 dX11_readAtom_114 rfl (lv_at hl 0 rfl) ?_
      obtain ⟨v6, G7, hf, hok⟩ := gOk_bind2 hok
      refine g_callV0 (κ := 11) fx hw (c_X11_readTag l X τ n hS x0 G5 h0 hf) lv_RX11_225 ⟨rfl, rfl⟩ rfl rfl h0 rfl hl.1 rfl ⟨by simp only [rm_r_X11, rm_X11_readTag]; omega, by simp only [rm_r_X11, rm_X11_readTag]; omega⟩ (Nat.le_of_ble_eq_true rfl) ⟨Nat.zero_le _, Nat.zero_le _⟩ dX11_readAtom_115 (fun H locs hw => ?_)
      refine g_if_eq (tgt := 123) fx dX11_readAtom_118 (by decide) hok (fun hok => ?_) (fun hok => ?_)
      · refine lv_aload_n fx.1 fx.2.1 dX11_readAtom_123 rfl (lv_at hl 0 rfl) ?_
        obtain ⟨v8, G9, hf, hok⟩ := gOk_bind2 hok
        refine g_callV0 (κ := 11) fx hw (c_X11_readSum l X τ n hS x0 G7 h0 hf) lv_RX11_228 ⟨rfl, rfl⟩ rfl rfl h0 rfl hl.1 rfl ⟨by simp only [rm_r_X11, rm_X11_readSum]; omega, by simp only [rm_r_X11, rm_X11_readSum]; omega⟩ (Nat.le_of_ble_eq_true rfl) ⟨Nat.zero_le _, Nat.zero_le _⟩ dX11_readAtom_124 (fun H locs hw => ?_)
        refine g_if_ne (tgt := 132) fx dX11_readAtom_127 (by decide) hok (fun hok => ?_) (fun hok => ?_)
        · refine lv_iconst (v := 0) fx.1 fx.2.1 dX11_readAtom_130 (by decide) ?_
          cases gOk_some hok
          exact g_zret fx hw hr (by decide) dX11_readAtom_131
        · refine lv_aload_n fx.1 fx.2.1 dX11_readAtom_132 rfl (lv_at hl 0 rfl) ?_
          refine lv_bipush (v := 60) fx.1 fx.2.1 dX11_readAtom_133 (by decide) ?_
          obtain ⟨v10, G11, hf, hok⟩ := gOk_bind2 hok
          refine g_callV0 (κ := 11) fx hw (c_X11_sign l X τ n x0 (60 : Int32) G9 h0 hf) lv_RX11_204 ⟨rfl, rfl⟩ rfl rfl h0 rfl hl.1 rfl ⟨by simp only [rm_r_X11, rm_X11_sign]; omega, by simp only [rm_r_X11, rm_X11_sign]; omega⟩ (Nat.le_of_ble_eq_true rfl) ⟨Nat.zero_le _, Nat.zero_le _⟩ dX11_readAtom_135 (fun H locs hw => ?_)
          refine lv_istore_n (lv' := [(1, .int v10), (0, .ref x0)]) fx.1 fx.2.1 dX11_readAtom_138 rfl hl (by decide) rfl (fun ls hl => ?_)
          refine lv_iload_n fx.1 fx.2.1 dX11_readAtom_139 rfl (lv_at hl 0 rfl) ?_
          refine g_if_ne (tgt := 152) fx dX11_readAtom_140 (by decide) hok (fun hok => ?_) (fun hok => ?_)
          · refine lv_aload_n fx.1 fx.2.1 dX11_readAtom_143 rfl (lv_at hl 1 rfl) ?_
            refine lv_bipush (v := 62) fx.1 fx.2.1 dX11_readAtom_144 (by decide) ?_
            obtain ⟨v12, G13, hf, hok⟩ := gOk_bind2 hok
            refine g_callV0 (κ := 11) fx hw (c_X11_sign l X τ n x0 (62 : Int32) G11 h0 hf) lv_RX11_204 ⟨rfl, rfl⟩ rfl rfl h0 rfl hl.1 rfl ⟨by simp only [rm_r_X11, rm_X11_sign]; omega, by simp only [rm_r_X11, rm_X11_sign]; omega⟩ (Nat.le_of_ble_eq_true rfl) ⟨Nat.zero_le _, Nat.zero_le _⟩ dX11_readAtom_146 (fun H locs hw => ?_)
            refine g_if_eq (tgt := 159) fx dX11_readAtom_149 (by decide) hok (fun hok => ?_) (fun hok => ?_)
            · refine lv_iconst (v := 0) fx.1 fx.2.1 dX11_readAtom_159 (by decide) ?_
              cases gOk_some hok
              exact g_zret fx hw hr (by decide) dX11_readAtom_160
            · exact w_X11_readAtom_152 fx hS F d hF0 hF1 hF2 n x0 v10  h0  hr hw (lv_sub hl [1, 0] rfl) hok
          · exact w_X11_readAtom_152 fx hS F d hF0 hF1 hF2 n x0 v10  h0  hr hw (lv_sub hl [1, 0] rfl) hok
      · refine lv_iconst (v := 1) fx.1 fx.2.1 dX11_readAtom_121 (by decide) ?_
        cases gOk_some hok
        exact g_zret fx hw hr (by decide) dX11_readAtom_122
    · refine lv_aload_n fx.1 fx.2.1 dX11_readAtom_65 rfl (lv_at hl 0 rfl) ?_
      refine g_geti fx hw h0 lf_RX11_211 rfl dX11_readAtom_66 ?_
      refine lv_bipush (v := 6) fx.1 fx.2.1 dX11_readAtom_69 (by decide) ?_
      refine g_icmp_ne (tgt := 76) fx dX11_readAtom_71 (by decide) hok (fun hok => ?_) (fun hok => ?_)
      · refine lv_iconst (v := 0) fx.1 fx.2.1 dX11_readAtom_74 (by decide) ?_
        cases gOk_some hok
        exact g_zret fx hw hr (by decide) dX11_readAtom_75
      · refine lv_aload_n fx.1 fx.2.1 dX11_readAtom_76 rfl (lv_at hl 0 rfl) ?_
        refine lv_dup fx.1 fx.2.1 dX11_readAtom_77 rfl ?_
        refine g_geti fx hw h0 lf_RX11_211 rfl dX11_readAtom_78 ?_
        refine lv_iconst (v := 1) fx.1 fx.2.1 dX11_readAtom_81 (by decide) ?_
        refine lv_iadd fx.1 fx.2.1 dX11_readAtom_82 ?_
        refine g_puti fx hw h0 lp_RX11_211 rfl rfl dX11_readAtom_83 hok (fun G17 H locs hw hok => ?_)
        refine lv_aload_n fx.1 fx.2.1 dX11_readAtom_86 rfl (lv_at hl 0 rfl) ?_
        obtain ⟨v18, G19, hf, hok⟩ := gOk_bind2 hok
        refine g_callV0 (κ := 11) fx hw (hF2 x0 G17 v18 G19 h0 hf) lv_RX11_222 ⟨rfl, rfl⟩ rfl rfl h0 rfl hl.1 rfl ⟨by simp only [rm_r_X11]; omega, by simp only [rm_r_X11]; omega⟩ (Nat.le_of_ble_eq_true rfl) ⟨Nat.zero_le _, Nat.zero_le _⟩ dX11_readAtom_87 (fun H locs hw => ?_)
        refine g_if_ne (tgt := 95) fx dX11_readAtom_90 (by decide) hok (fun hok => ?_) (fun hok => ?_)
        · refine lv_iconst (v := 0) fx.1 fx.2.1 dX11_readAtom_93 (by decide) ?_
          cases gOk_some hok
          exact g_zret fx hw hr (by decide) dX11_readAtom_94
        · refine lv_aload_n fx.1 fx.2.1 dX11_readAtom_95 rfl (lv_at hl 0 rfl) ?_
          refine lv_dup fx.1 fx.2.1 dX11_readAtom_96 rfl ?_
          refine g_geti fx hw h0 lf_RX11_211 rfl dX11_readAtom_97 ?_
          refine lv_iconst (v := 1) fx.1 fx.2.1 dX11_readAtom_100 (by decide) ?_
          refine lv_isub fx.1 fx.2.1 dX11_readAtom_101 ?_
          refine g_puti fx hw h0 lp_RX11_211 rfl rfl dX11_readAtom_102 hok (fun G20 H locs hw hok => ?_)
          refine lv_aload_n fx.1 fx.2.1 dX11_readAtom_105 rfl (lv_at hl 0 rfl) ?_
          refine lv_bipush (v := 15) fx.1 fx.2.1 dX11_readAtom_106 (by decide) ?_
          refine lv_iconst (v := 0) fx.1 fx.2.1 dX11_readAtom_108 (by decide) ?_
          obtain ⟨G21, hf, hok⟩ := gOk_bind hok
          refine g_callV0 (κ := 11) fx hw (c_X11_emits l X τ x0 (15 : Int32) (0 : Int32) G20 h0 hf) lv_RX11_185 ⟨rfl, rfl⟩ rfl rfl h0 rfl hl.1 rfl ⟨by simp only [rm_r_X11, rm_X11_emits]; omega, by simp only [rm_r_X11, rm_X11_emits]; omega⟩ (Nat.le_of_ble_eq_true rfl) ⟨Nat.zero_le _, Nat.zero_le _⟩ dX11_readAtom_109 (fun H locs hw => ?_)
          refine lv_iconst (v := 1) fx.1 fx.2.1 dX11_readAtom_112 (by decide) ?_
          cases gOk_some hok
          exact g_zret fx hw hr (by decide) dX11_readAtom_113
  · refine lv_aload_n fx.1 fx.2.1 dX11_readAtom_9 rfl (lv_at hl 0 rfl) ?_
    refine g_geti fx hw h0 lf_RX11_211 rfl dX11_readAtom_10 ?_
    refine lv_bipush (v := 6) fx.1 fx.2.1 dX11_readAtom_13 (by decide) ?_
    refine g_icmp_ne (tgt := 20) fx dX11_readAtom_15 (by decide) hok (fun hok => ?_) (fun hok => ?_)
    · refine lv_iconst (v := 0) fx.1 fx.2.1 dX11_readAtom_18 (by decide) ?_
      cases gOk_some hok
      exact g_zret fx hw hr (by decide) dX11_readAtom_19
    · refine lv_aload_n fx.1 fx.2.1 dX11_readAtom_20 rfl (lv_at hl 0 rfl) ?_
      refine lv_dup fx.1 fx.2.1 dX11_readAtom_21 rfl ?_
      refine g_geti fx hw h0 lf_RX11_211 rfl dX11_readAtom_22 ?_
      refine lv_iconst (v := 1) fx.1 fx.2.1 dX11_readAtom_25 (by decide) ?_
      refine lv_iadd fx.1 fx.2.1 dX11_readAtom_26 ?_
      refine g_puti fx hw h0 lp_RX11_211 rfl rfl dX11_readAtom_27 hok (fun G22 H locs hw hok => ?_)
      refine lv_aload_n fx.1 fx.2.1 dX11_readAtom_30 rfl (lv_at hl 0 rfl) ?_
      obtain ⟨v23, G24, hf, hok⟩ := gOk_bind2 hok
      refine g_callV0 (κ := 11) fx hw (hF0 x0 G22 v23 G24 h0 hf) lv_RX11_214 ⟨rfl, rfl⟩ rfl rfl h0 rfl hl.1 rfl ⟨by simp only [rm_r_X11]; omega, by simp only [rm_r_X11]; omega⟩ (Nat.le_of_ble_eq_true rfl) ⟨Nat.zero_le _, Nat.zero_le _⟩ dX11_readAtom_31 (fun H locs hw => ?_)
      refine g_if_ne (tgt := 39) fx dX11_readAtom_34 (by decide) hok (fun hok => ?_) (fun hok => ?_)
      · refine lv_iconst (v := 0) fx.1 fx.2.1 dX11_readAtom_37 (by decide) ?_
        cases gOk_some hok
        exact g_zret fx hw hr (by decide) dX11_readAtom_38
      · refine lv_aload_n fx.1 fx.2.1 dX11_readAtom_39 rfl (lv_at hl 0 rfl) ?_
        refine lv_dup fx.1 fx.2.1 dX11_readAtom_40 rfl ?_
        refine g_geti fx hw h0 lf_RX11_211 rfl dX11_readAtom_41 ?_
        refine lv_iconst (v := 1) fx.1 fx.2.1 dX11_readAtom_44 (by decide) ?_
        refine lv_isub fx.1 fx.2.1 dX11_readAtom_45 ?_
        refine g_puti fx hw h0 lp_RX11_211 rfl rfl dX11_readAtom_46 hok (fun G25 H locs hw hok => ?_)
        refine lv_aload_n fx.1 fx.2.1 dX11_readAtom_49 rfl (lv_at hl 0 rfl) ?_
        refine lv_bipush (v := 41) fx.1 fx.2.1 dX11_readAtom_50 (by decide) ?_
        obtain ⟨v26, G27, hf, hok⟩ := gOk_bind2 hok
        refine g_callV0 (κ := 11) fx hw (c_X11_sign l X τ n x0 (41 : Int32) G25 h0 hf) lv_RX11_204 ⟨rfl, rfl⟩ rfl rfl h0 rfl hl.1 rfl ⟨by simp only [rm_r_X11, rm_X11_sign]; omega, by simp only [rm_r_X11, rm_X11_sign]; omega⟩ (Nat.le_of_ble_eq_true rfl) ⟨Nat.zero_le _, Nat.zero_le _⟩ dX11_readAtom_52 (fun H locs hw => ?_)
        obtain ⟨hz, hok⟩ := gOk_chk hok
        cases gOk_some hok
        exact g_zret fx hw hr hz dX11_readAtom_55
def r_X11 (τ : gτ) (n : Nat) : Nat → Nat → Nat → gG → Option (Int32 × gG)
  | 0 => fun _ _ _ => none
  | d + 1 => fun t x0 G => match t with
    | 0 => e_X11_readCond τ n (r_X11 τ n d) x0 G
    | 1 => e_X11_readAllOf τ n (r_X11 τ n d) x0 G
    | _ => e_X11_readAtom τ n (r_X11 τ n d) x0 G
theorem c_r_X11 (l : Launch) (X : gX) (τ : gτ) (n : Nat) (hS : gS0 l X) : ∀ d : Nat, (∀ (x0 : Nat) (G : gG) (r : Int32) (G' : gG), gK τ x0 11 → r_X11 τ n d 0 x0 G = some (r, G') → gM l X τ yX11_readCond cX11_readCond 1 (some .boolean) (rm_r_X11 d) [.ref x0] G (some (.int r)) G') ∧ (∀ (x0 : Nat) (G : gG) (r : Int32) (G' : gG), gK τ x0 11 → r_X11 τ n d 1 x0 G = some (r, G') → gM l X τ yX11_readAllOf cX11_readAllOf 1 (some .boolean) (rm_r_X11 d) [.ref x0] G (some (.int r)) G') ∧ (∀ (x0 : Nat) (G : gG) (r : Int32) (G' : gG), gK τ x0 11 → r_X11 τ n d 2 x0 G = some (r, G') → gM l X τ yX11_readAtom cX11_readAtom 2 (some .boolean) (rm_r_X11 d) [.ref x0] G (some (.int r)) G') := by
  intro d
  induction d with
  | zero =>
    refine ⟨?_, ?_, ?_⟩
    · intro x0 G r G' _ h
      exact absurd (show (none : Option (Int32 × gG)) = some _ from h) (by simp)
    · intro x0 G r G' _ h
      exact absurd (show (none : Option (Int32 × gG)) = some _ from h) (by simp)
    · intro x0 G r G' _ h
      exact absurd (show (none : Option (Int32 × gG)) = some _ from h) (by simp)
  | succ d ih =>
    obtain ⟨i0, i1, i2⟩ := ih
    refine ⟨?_, ?_, ?_⟩
    · intro x0 G r G' hk h
      exact ce_X11_readCond l X τ n hS (r_X11 τ n d) d i0 i1 i2 x0 G hk h
    · intro x0 G r G' hk h
      exact ce_X11_readAllOf l X τ n hS (r_X11 τ n d) d i0 i1 i2 x0 G hk h
    · intro x0 G r G' hk h
      exact ce_X11_readAtom l X τ n hS (r_X11 τ n d) d i0 i1 i2 x0 G hk h

def rm_X11_readCond : Room := rm_r_X11 30
def f_X11_readCond (τ : gτ) (n : Nat) (x0 : Nat) (G : gG) : Option (Int32 × gG) := r_X11 τ n 30 0 x0 G
theorem c_X11_readCond (l : Launch) (X : gX) (τ : gτ) (n : Nat) (hS : gS0 l X) (x0 : Nat) (G : gG) (h0 : gK τ x0 11) {r : Int32} {G' : gG} (h : f_X11_readCond τ n x0 G = some (r, G')) : gM l X τ yX11_readCond cX11_readCond 1 (some .boolean) rm_X11_readCond [.ref x0] G (some (.int r)) G' := (c_r_X11 l X τ n hS 30).1 x0 G r G' h0 h
def rm_X11_readAllOf : Room := rm_r_X11 30
def f_X11_readAllOf (τ : gτ) (n : Nat) (x0 : Nat) (G : gG) : Option (Int32 × gG) := r_X11 τ n 30 1 x0 G
theorem c_X11_readAllOf (l : Launch) (X : gX) (τ : gτ) (n : Nat) (hS : gS0 l X) (x0 : Nat) (G : gG) (h0 : gK τ x0 11) {r : Int32} {G' : gG} (h : f_X11_readAllOf τ n x0 G = some (r, G')) : gM l X τ yX11_readAllOf cX11_readAllOf 1 (some .boolean) rm_X11_readAllOf [.ref x0] G (some (.int r)) G' := (c_r_X11 l X τ n hS 30).2.1 x0 G r G' h0 h
def rm_X11_readAtom : Room := rm_r_X11 30
def f_X11_readAtom (τ : gτ) (n : Nat) (x0 : Nat) (G : gG) : Option (Int32 × gG) := r_X11 τ n 30 2 x0 G
theorem c_X11_readAtom (l : Launch) (X : gX) (τ : gτ) (n : Nat) (hS : gS0 l X) (x0 : Nat) (G : gG) (h0 : gK τ x0 11) {r : Int32} {G' : gG} (h : f_X11_readAtom τ n x0 G = some (r, G')) : gM l X τ yX11_readAtom cX11_readAtom 2 (some .boolean) rm_X11_readAtom [.ref x0] G (some (.int r)) G' := (c_r_X11 l X τ n hS 30).2.2 x0 G r G' h0 h
theorem dX11_readLawLine_0 : decode cX11_readLawLine 0 = .ok (.sipush 1317, 3) := by decide +kernel
theorem dX11_readLawLine_3 : decode cX11_readLawLine 3 = .ok (.iconst 4, 1) := by decide +kernel
theorem dX11_readLawLine_4 : decode cX11_readLawLine 4 = .ok (.iload_n 1, 1) := by decide +kernel
theorem dX11_readLawLine_5 : decode cX11_readLawLine 5 = .ok (.imul, 1) := by decide +kernel
theorem dX11_readLawLine_6 : decode cX11_readLawLine 6 = .ok (.iadd, 1) := by decide +kernel
theorem dX11_readLawLine_7 : decode cX11_readLawLine 7 = .ok (.istore_n 2, 1) := by decide +kernel
theorem dX11_readLawLine_8 : decode cX11_readLawLine 8 = .ok (.aload_n 0, 1) := by decide +kernel
theorem dX11_readLawLine_9 : decode cX11_readLawLine 9 = .ok (.ldc 238, 2) := by decide +kernel
theorem dX11_readLawLine_11 : decode cX11_readLawLine 11 = .ok (.invokevirtual 111, 3) := by decide +kernel
theorem dX11_readLawLine_14 : decode cX11_readLawLine 14 = .ok (.istore_n 3, 1) := by decide +kernel
theorem dX11_readLawLine_15 : decode cX11_readLawLine 15 = .ok (.iload_n 3, 1) := by decide +kernel
theorem dX11_readLawLine_16 : decode cX11_readLawLine 16 = .ok (.ifCond .ne 23, 3) := by decide +kernel
theorem dX11_readLawLine_19 : decode cX11_readLawLine 19 = .ok (.aload_n 0, 1) := by decide +kernel
theorem dX11_readLawLine_20 : decode cX11_readLawLine 20 = .ok (.ldc 240, 2) := by decide +kernel
theorem dX11_readLawLine_22 : decode cX11_readLawLine 22 = .ok (.invokevirtual 111, 3) := by decide +kernel
theorem dX11_readLawLine_25 : decode cX11_readLawLine 25 = .ok (.ifCond .ne 14, 3) := by decide +kernel
theorem dX11_readLawLine_28 : decode cX11_readLawLine 28 = .ok (.aload_n 0, 1) := by decide +kernel
theorem dX11_readLawLine_29 : decode cX11_readLawLine 29 = .ok (.ldc 242, 2) := by decide +kernel
theorem dX11_readLawLine_31 : decode cX11_readLawLine 31 = .ok (.invokevirtual 111, 3) := by decide +kernel
theorem dX11_readLawLine_34 : decode cX11_readLawLine 34 = .ok (.ifCond .ne 5, 3) := by decide +kernel
theorem dX11_readLawLine_37 : decode cX11_readLawLine 37 = .ok (.iconst 0, 1) := by decide +kernel
theorem dX11_readLawLine_38 : decode cX11_readLawLine 38 = .ok (.ireturn, 1) := by decide +kernel
theorem dX11_readLawLine_39 : decode cX11_readLawLine 39 = .ok (.aload_n 0, 1) := by decide +kernel
theorem dX11_readLawLine_40 : decode cX11_readLawLine 40 = .ok (.getfield 13, 3) := by decide +kernel
theorem dX11_readLawLine_43 : decode cX11_readLawLine 43 = .ok (.iload_n 2, 1) := by decide +kernel
theorem dX11_readLawLine_44 : decode cX11_readLawLine 44 = .ok (.iload_n 3, 1) := by decide +kernel
theorem dX11_readLawLine_45 : decode cX11_readLawLine 45 = .ok (.ifCond .eq 7, 3) := by decide +kernel
theorem dX11_readLawLine_48 : decode cX11_readLawLine 48 = .ok (.iconst 0, 1) := by decide +kernel
theorem dX11_readLawLine_49 : decode cX11_readLawLine 49 = .ok (.goto 17, 3) := by decide +kernel
theorem dX11_readLawLine_52 : decode cX11_readLawLine 52 = .ok (.aload_n 0, 1) := by decide +kernel
theorem dX11_readLawLine_53 : decode cX11_readLawLine 53 = .ok (.ldc 240, 2) := by decide +kernel
theorem dX11_readLawLine_55 : decode cX11_readLawLine 55 = .ok (.invokevirtual 111, 3) := by decide +kernel
theorem dX11_readLawLine_58 : decode cX11_readLawLine 58 = .ok (.ifCond .eq 7, 3) := by decide +kernel
theorem dX11_readLawLine_61 : decode cX11_readLawLine 61 = .ok (.iconst 1, 1) := by decide +kernel
theorem dX11_readLawLine_62 : decode cX11_readLawLine 62 = .ok (.goto 4, 3) := by decide +kernel
theorem dX11_readLawLine_65 : decode cX11_readLawLine 65 = .ok (.iconst (-1), 1) := by decide +kernel
theorem dX11_readLawLine_66 : decode cX11_readLawLine 66 = .ok (.iastore, 1) := by decide +kernel
theorem dX11_readLawLine_67 : decode cX11_readLawLine 67 = .ok (.aload_n 0, 1) := by decide +kernel
theorem dX11_readLawLine_68 : decode cX11_readLawLine 68 = .ok (.getfield 13, 3) := by decide +kernel
theorem dX11_readLawLine_71 : decode cX11_readLawLine 71 = .ok (.iload_n 2, 1) := by decide +kernel
theorem dX11_readLawLine_72 : decode cX11_readLawLine 72 = .ok (.iconst 1, 1) := by decide +kernel
theorem dX11_readLawLine_73 : decode cX11_readLawLine 73 = .ok (.iadd, 1) := by decide +kernel
theorem dX11_readLawLine_74 : decode cX11_readLawLine 74 = .ok (.aload_n 0, 1) := by decide +kernel
theorem dX11_readLawLine_75 : decode cX11_readLawLine 75 = .ok (.iconst 0, 1) := by decide +kernel
theorem dX11_readLawLine_76 : decode cX11_readLawLine 76 = .ok (.bipush 99, 2) := by decide +kernel
theorem dX11_readLawLine_78 : decode cX11_readLawLine 78 = .ok (.invokevirtual 115, 3) := by decide +kernel
theorem dX11_readLawLine_81 : decode cX11_readLawLine 81 = .ok (.iastore, 1) := by decide +kernel
theorem dX11_readLawLine_82 : decode cX11_readLawLine 82 = .ok (.aload_n 0, 1) := by decide +kernel
theorem dX11_readLawLine_83 : decode cX11_readLawLine 83 = .ok (.getfield 13, 3) := by decide +kernel
theorem dX11_readLawLine_86 : decode cX11_readLawLine 86 = .ok (.iload_n 2, 1) := by decide +kernel
theorem dX11_readLawLine_87 : decode cX11_readLawLine 87 = .ok (.iconst 1, 1) := by decide +kernel
theorem dX11_readLawLine_88 : decode cX11_readLawLine 88 = .ok (.iadd, 1) := by decide +kernel
theorem dX11_readLawLine_89 : decode cX11_readLawLine 89 = .ok (.iaload, 1) := by decide +kernel
theorem dX11_readLawLine_90 : decode cX11_readLawLine 90 = .ok (.ifCond .ge 5, 3) := by decide +kernel
theorem dX11_readLawLine_93 : decode cX11_readLawLine 93 = .ok (.iconst 0, 1) := by decide +kernel
theorem dX11_readLawLine_94 : decode cX11_readLawLine 94 = .ok (.ireturn, 1) := by decide +kernel
theorem dX11_readLawLine_95 : decode cX11_readLawLine 95 = .ok (.aload_n 0, 1) := by decide +kernel
theorem dX11_readLawLine_96 : decode cX11_readLawLine 96 = .ok (.getfield 13, 3) := by decide +kernel
theorem dX11_readLawLine_99 : decode cX11_readLawLine 99 = .ok (.iload_n 2, 1) := by decide +kernel
theorem dX11_readLawLine_100 : decode cX11_readLawLine 100 = .ok (.iconst 2, 1) := by decide +kernel
theorem dX11_readLawLine_101 : decode cX11_readLawLine 101 = .ok (.iadd, 1) := by decide +kernel
theorem dX11_readLawLine_102 : decode cX11_readLawLine 102 = .ok (.aload_n 0, 1) := by decide +kernel
theorem dX11_readLawLine_103 : decode cX11_readLawLine 103 = .ok (.getfield 182, 3) := by decide +kernel
theorem dX11_readLawLine_106 : decode cX11_readLawLine 106 = .ok (.iastore, 1) := by decide +kernel
theorem dX11_readLawLine_107 : decode cX11_readLawLine 107 = .ok (.aload_n 0, 1) := by decide +kernel
theorem dX11_readLawLine_108 : decode cX11_readLawLine 108 = .ok (.iconst 0, 1) := by decide +kernel
theorem dX11_readLawLine_109 : decode cX11_readLawLine 109 = .ok (.putfield 211, 3) := by decide +kernel
theorem dX11_readLawLine_112 : decode cX11_readLawLine 112 = .ok (.aload_n 0, 1) := by decide +kernel
theorem dX11_readLawLine_113 : decode cX11_readLawLine 113 = .ok (.ldc 244, 2) := by decide +kernel
theorem dX11_readLawLine_115 : decode cX11_readLawLine 115 = .ok (.invokevirtual 219, 3) := by decide +kernel
theorem dX11_readLawLine_118 : decode cX11_readLawLine 118 = .ok (.ifCond .eq 12, 3) := by decide +kernel
theorem dX11_readLawLine_121 : decode cX11_readLawLine 121 = .ok (.aload_n 0, 1) := by decide +kernel
theorem dX11_readLawLine_122 : decode cX11_readLawLine 122 = .ok (.invokevirtual 214, 3) := by decide +kernel
theorem dX11_readLawLine_125 : decode cX11_readLawLine 125 = .ok (.ifCond .ne 5, 3) := by decide +kernel
theorem dX11_readLawLine_128 : decode cX11_readLawLine 128 = .ok (.iconst 0, 1) := by decide +kernel
theorem dX11_readLawLine_129 : decode cX11_readLawLine 129 = .ok (.ireturn, 1) := by decide +kernel
theorem dX11_readLawLine_130 : decode cX11_readLawLine 130 = .ok (.aload_n 0, 1) := by decide +kernel
theorem dX11_readLawLine_131 : decode cX11_readLawLine 131 = .ok (.getfield 13, 3) := by decide +kernel
theorem dX11_readLawLine_134 : decode cX11_readLawLine 134 = .ok (.iload_n 2, 1) := by decide +kernel
theorem dX11_readLawLine_135 : decode cX11_readLawLine 135 = .ok (.iconst 3, 1) := by decide +kernel
theorem dX11_readLawLine_136 : decode cX11_readLawLine 136 = .ok (.iadd, 1) := by decide +kernel
theorem dX11_readLawLine_137 : decode cX11_readLawLine 137 = .ok (.aload_n 0, 1) := by decide +kernel
theorem dX11_readLawLine_138 : decode cX11_readLawLine 138 = .ok (.getfield 182, 3) := by decide +kernel
theorem dX11_readLawLine_141 : decode cX11_readLawLine 141 = .ok (.iastore, 1) := by decide +kernel
theorem dX11_readLawLine_142 : decode cX11_readLawLine 142 = .ok (.iconst 1, 1) := by decide +kernel
theorem dX11_readLawLine_143 : decode cX11_readLawLine 143 = .ok (.ireturn, 1) := by decide +kernel
def rm_X11_readLawLine : Room := { frames := 51, cells := 0, slots := 0, locals := 1620 }
def k_X11_readLawLine_130 (τ : gτ) (n : Nat) (x0 : Nat) (x2 : Int32)  (G : gG) : Option (Int32 × gG) :=
  (gr G 11 1 x0).bind fun a23 =>
  gchk (gIn (x2 + (3 : Int32)) (gn τ a23)) <| gLet (gse G a23 (Int32.toNatClampNeg (x2 + (3 : Int32))) (gi G 11 16 x0)) fun G24 =>
  some (1, G24)
def k_X11_readLawLine_66 (τ : gτ) (n : Nat) (x0 : Nat) (x2 : Int32) (s0 : Nat) (s1 : Int32) (s2 : Int32) (G : gG) : Option (Int32 × gG) :=
  gchk (gIn s1 (gn τ s0)) <| gLet (gse G s0 (Int32.toNatClampNeg s1) s2) fun G11 =>
  (gr G11 11 1 x0).bind fun a12 =>
  gBind2 (f_X11_number τ n x0 (0 : Int32) (99 : Int32) G11) fun v13 G14 =>
  gchk (gIn (x2 + (1 : Int32)) (gn τ a12)) <| gLet (gse G14 a12 (Int32.toNatClampNeg (x2 + (1 : Int32))) v13) fun G15 =>
  (gr G15 11 1 x0).bind fun a16 =>
  gchk (gIn (x2 + (1 : Int32)) (gn τ a16)) <|
  if 0 ≤ (ge G15 a16 (Int32.toNatClampNeg (x2 + (1 : Int32)))) then ((gr G15 11 1 x0).bind fun a17 =>
  gchk (gIn (x2 + (2 : Int32)) (gn τ a17)) <| gLet (gse G15 a17 (Int32.toNatClampNeg (x2 + (2 : Int32))) (gi G15 11 16 x0)) fun G18 =>
  gLet (gsi G18 11 13 x0 (0 : Int32)) fun G19 =>
  gBind2 (f_X11_passes τ n x0 s_if G19) fun v21 G22 =>
  if v21 = 0 then (k_X11_readLawLine_130 τ n x0 x2  G22)
  else (gBind2 (f_X11_readCond τ n x0 G22) fun v25 G26 =>
  if v25 = 0 then (some (0, G26))
  else (k_X11_readLawLine_130 τ n x0 x2  G26)))
  else (some (0, G15))
def k_X11_readLawLine_39 (τ : gτ) (n : Nat) (x0 : Nat) (x2 : Int32) (x3 : Int32)  (G : gG) : Option (Int32 × gG) :=
  (gr G 11 1 x0).bind fun a8 =>
  if x3 = 0 then ((f_X11_isWord τ n x0 s_bear G).bind fun v10 =>
  if v10 = 0 then (k_X11_readLawLine_66 τ n x0 x2 a8 x2 (-1 : Int32) G)
  else (k_X11_readLawLine_66 τ n x0 x2 a8 x2 (1 : Int32) G))
  else (k_X11_readLawLine_66 τ n x0 x2 a8 x2 (0 : Int32) G)
def f_X11_readLawLine (τ : gτ) (n : Nat) (x0 : Nat) (x1 : Int32) (G : gG) : Option (Int32 × gG) :=
  gLet ((1317 : Int32) + ((4 : Int32) * x1)) fun v1 =>
  (f_X11_isWord τ n x0 s_wear G).bind fun v3 =>
  if v3 = 0 then ((f_X11_isWord τ n x0 s_bear G).bind fun v5 =>
  if v5 = 0 then ((f_X11_isWord τ n x0 s_fail G).bind fun v7 =>
  if v7 = 0 then (some (0, G))
  else (k_X11_readLawLine_39 τ n x0 v1 v3  G))
  else (k_X11_readLawLine_39 τ n x0 v1 v3  G))
  else (k_X11_readLawLine_39 τ n x0 v1 v3  G)
set_option maxHeartbeats 4000000 in
set_option maxRecDepth 100000 in
theorem w_X11_readLawLine_130 {X : gX} {τ : gτ} {p : Program} {l : Launch} {e : Env} {s : State} {m : MethodId} {args : Array Value} {below : List Frame} {meth : Method} {c : Code} (fx : gFx X p s m args meth c cX11_readLawLine 4 RX11) (hS : gS0 l X) (n : Nat) (x0 : Nat) (x2 : Int32)  (h0 : gK τ x0 11)  (hr : meth.sig.returnType = (some .boolean)) {r : Int32} {G' : gG} {G : gG} {H : Heap} {locs : List Loc} {ls : Array Slot} (hw : gHw X τ G H locs) (hl : lv_has ls 4 [(0, .ref x0), (2, .int x2)]) (hok : gOk (k_X11_readLawLine_130 τ n x0 x2  G) (fun q => q = (r, G')))  : W p l e rm_X11_readLawLine s m args below meth c H locs 0 0 (MQ below (gQ X τ (some (.int r)) G') args s 0 0 (gFree X)) (F0 m 130 ls []) := by
  unfold k_X11_readLawLine_130 at hok
  refine lv_aload_n fx.1 fx.2.1 dX11_readLawLine_130 rfl (lv_at hl 0 rfl) ?_
  refine g_getr fx hw h0 lf_RX11_13 rfl dX11_readLawLine_131 hok (fun a23 h_a23 hok => ?_)
  refine lv_iload_n fx.1 fx.2.1 dX11_readLawLine_134 rfl (lv_at hl 1 rfl) ?_
  refine lv_iconst (v := 3) fx.1 fx.2.1 dX11_readLawLine_135 (by decide) ?_
  refine lv_iadd fx.1 fx.2.1 dX11_readLawLine_136 ?_
  refine lv_aload_n fx.1 fx.2.1 dX11_readLawLine_137 rfl (lv_at hl 0 rfl) ?_
  refine g_geti fx hw h0 lf_RX11_182 rfl dX11_readLawLine_138 ?_
  refine g_iast fx hw h_a23 dX11_readLawLine_141 hok (fun G24 H locs hw hok => ?_)
  refine lv_iconst (v := 1) fx.1 fx.2.1 dX11_readLawLine_142 (by decide) ?_
  cases gOk_some hok
  exact g_zret fx hw hr (by decide) dX11_readLawLine_143
set_option maxHeartbeats 4000000 in
set_option maxRecDepth 100000 in
theorem w_X11_readLawLine_66 {X : gX} {τ : gτ} {p : Program} {l : Launch} {e : Env} {s : State} {m : MethodId} {args : Array Value} {below : List Frame} {meth : Method} {c : Code} (fx : gFx X p s m args meth c cX11_readLawLine 4 RX11) (hS : gS0 l X) (n : Nat) (x0 : Nat) (x2 : Int32) (s0 : Nat) (s1 : Int32) (s2 : Int32) (h0 : gK τ x0 11) (hs0 : gK τ s0 13) (hr : meth.sig.returnType = (some .boolean)) {r : Int32} {G' : gG} {G : gG} {H : Heap} {locs : List Loc} {ls : Array Slot} (hw : gHw X τ G H locs) (hl : lv_has ls 4 [(0, .ref x0), (2, .int x2)]) (hok : gOk (k_X11_readLawLine_66 τ n x0 x2 s0 s1 s2 G) (fun q => q = (r, G')))  : W p l e rm_X11_readLawLine s m args below meth c H locs 0 0 (MQ below (gQ X τ (some (.int r)) G') args s 0 0 (gFree X)) (F0 m 66 ls [.int s2, .int s1, .ref s0]) := by
  unfold k_X11_readLawLine_66 at hok
  refine g_iast fx hw hs0 dX11_readLawLine_66 hok (fun G11 H locs hw hok => ?_)
  refine lv_aload_n fx.1 fx.2.1 dX11_readLawLine_67 rfl (lv_at hl 0 rfl) ?_
  refine g_getr fx hw h0 lf_RX11_13 rfl dX11_readLawLine_68 hok (fun a12 h_a12 hok => ?_)
  refine lv_iload_n fx.1 fx.2.1 dX11_readLawLine_71 rfl (lv_at hl 1 rfl) ?_
  refine lv_iconst (v := 1) fx.1 fx.2.1 dX11_readLawLine_72 (by decide) ?_
  refine lv_iadd fx.1 fx.2.1 dX11_readLawLine_73 ?_
  refine lv_aload_n fx.1 fx.2.1 dX11_readLawLine_74 rfl (lv_at hl 0 rfl) ?_
  refine lv_iconst (v := 0) fx.1 fx.2.1 dX11_readLawLine_75 (by decide) ?_
  refine lv_bipush (v := 99) fx.1 fx.2.1 dX11_readLawLine_76 (by decide) ?_
  obtain ⟨v13, G14, hf, hok⟩ := gOk_bind2 hok
  refine g_callV0 (κ := 11) fx hw (c_X11_number l X τ n x0 (0 : Int32) (99 : Int32) G11 h0 hf) lv_RX11_115 ⟨rfl, rfl⟩ rfl rfl h0 rfl hl.1 rfl ⟨Nat.le_of_ble_eq_true rfl, Nat.le_of_ble_eq_true rfl⟩ (Nat.le_of_ble_eq_true rfl) ⟨Nat.le_of_ble_eq_true rfl, Nat.le_of_ble_eq_true rfl⟩ dX11_readLawLine_78 (fun H locs hw => ?_)
  refine g_iast fx hw h_a12 dX11_readLawLine_81 hok (fun G15 H locs hw hok => ?_)
  refine lv_aload_n fx.1 fx.2.1 dX11_readLawLine_82 rfl (lv_at hl 0 rfl) ?_
  refine g_getr fx hw h0 lf_RX11_13 rfl dX11_readLawLine_83 hok (fun a16 h_a16 hok => ?_)
  refine lv_iload_n fx.1 fx.2.1 dX11_readLawLine_86 rfl (lv_at hl 1 rfl) ?_
  refine lv_iconst (v := 1) fx.1 fx.2.1 dX11_readLawLine_87 (by decide) ?_
  refine lv_iadd fx.1 fx.2.1 dX11_readLawLine_88 ?_
  refine g_iald fx hw h_a16 dX11_readLawLine_89 hok (fun hok => ?_)
  refine g_if_ge (tgt := 95) fx dX11_readLawLine_90 (by decide) hok (fun hok => ?_) (fun hok => ?_)
  · refine lv_aload_n fx.1 fx.2.1 dX11_readLawLine_95 rfl (lv_at hl 0 rfl) ?_
    refine g_getr fx hw h0 lf_RX11_13 rfl dX11_readLawLine_96 hok (fun a17 h_a17 hok => ?_)
    refine lv_iload_n fx.1 fx.2.1 dX11_readLawLine_99 rfl (lv_at hl 1 rfl) ?_
    refine lv_iconst (v := 2) fx.1 fx.2.1 dX11_readLawLine_100 (by decide) ?_
    refine lv_iadd fx.1 fx.2.1 dX11_readLawLine_101 ?_
    refine lv_aload_n fx.1 fx.2.1 dX11_readLawLine_102 rfl (lv_at hl 0 rfl) ?_
    refine g_geti fx hw h0 lf_RX11_182 rfl dX11_readLawLine_103 ?_
    refine g_iast fx hw h_a17 dX11_readLawLine_106 hok (fun G18 H locs hw hok => ?_)
    refine lv_aload_n fx.1 fx.2.1 dX11_readLawLine_107 rfl (lv_at hl 0 rfl) ?_
    refine lv_iconst (v := 0) fx.1 fx.2.1 dX11_readLawLine_108 (by decide) ?_
    refine g_puti fx hw h0 lp_RX11_211 rfl rfl dX11_readLawLine_109 hok (fun G19 H locs hw hok => ?_)
    refine lv_aload_n fx.1 fx.2.1 dX11_readLawLine_112 rfl (lv_at hl 0 rfl) ?_
    refine g_ldcS fx hS gt_RX11_244 dX11_readLawLine_113 (fun w20 h_w20 => ?_)
    obtain ⟨v21, G22, hf, hok⟩ := gOk_bind2 hok
    refine g_callV0 (κ := 11) fx hw (c_X11_passes l X τ n hS x0 s_if G19 h0 h_w20 hf) lv_RX11_219 ⟨rfl, rfl⟩ rfl rfl h0 rfl hl.1 rfl ⟨Nat.le_of_ble_eq_true rfl, Nat.le_of_ble_eq_true rfl⟩ (Nat.le_of_ble_eq_true rfl) ⟨Nat.le_of_ble_eq_true rfl, Nat.le_of_ble_eq_true rfl⟩ dX11_readLawLine_115 (fun H locs hw => ?_)
    refine g_if_eq (tgt := 130) fx dX11_readLawLine_118 (by decide) hok (fun hok => ?_) (fun hok => ?_)
    · exact w_X11_readLawLine_130 fx hS n x0 x2  h0  hr hw (lv_sub hl [0, 1] rfl) hok
    · refine lv_aload_n fx.1 fx.2.1 dX11_readLawLine_121 rfl (lv_at hl 0 rfl) ?_
      obtain ⟨v25, G26, hf, hok⟩ := gOk_bind2 hok
      refine g_callV0 (κ := 11) fx hw (c_X11_readCond l X τ n hS x0 G22 h0 hf) lv_RX11_214 ⟨rfl, rfl⟩ rfl rfl h0 rfl hl.1 rfl ⟨Nat.le_of_ble_eq_true rfl, Nat.le_of_ble_eq_true rfl⟩ (Nat.le_of_ble_eq_true rfl) ⟨Nat.le_of_ble_eq_true rfl, Nat.le_of_ble_eq_true rfl⟩ dX11_readLawLine_122 (fun H locs hw => ?_)
      refine g_if_ne (tgt := 130) fx dX11_readLawLine_125 (by decide) hok (fun hok => ?_) (fun hok => ?_)
      · refine lv_iconst (v := 0) fx.1 fx.2.1 dX11_readLawLine_128 (by decide) ?_
        cases gOk_some hok
        exact g_zret fx hw hr (by decide) dX11_readLawLine_129
      · exact w_X11_readLawLine_130 fx hS n x0 x2  h0  hr hw (lv_sub hl [0, 1] rfl) hok
  · refine lv_iconst (v := 0) fx.1 fx.2.1 dX11_readLawLine_93 (by decide) ?_
    cases gOk_some hok
    exact g_zret fx hw hr (by decide) dX11_readLawLine_94
set_option maxHeartbeats 4000000 in
set_option maxRecDepth 100000 in
theorem w_X11_readLawLine_39 {X : gX} {τ : gτ} {p : Program} {l : Launch} {e : Env} {s : State} {m : MethodId} {args : Array Value} {below : List Frame} {meth : Method} {c : Code} (fx : gFx X p s m args meth c cX11_readLawLine 4 RX11) (hS : gS0 l X) (n : Nat) (x0 : Nat) (x2 : Int32) (x3 : Int32)  (h0 : gK τ x0 11)  (hr : meth.sig.returnType = (some .boolean)) {r : Int32} {G' : gG} {G : gG} {H : Heap} {locs : List Loc} {ls : Array Slot} (hw : gHw X τ G H locs) (hl : lv_has ls 4 [(0, .ref x0), (2, .int x2), (3, .int x3)]) (hok : gOk (k_X11_readLawLine_39 τ n x0 x2 x3  G) (fun q => q = (r, G')))  : W p l e rm_X11_readLawLine s m args below meth c H locs 0 0 (MQ below (gQ X τ (some (.int r)) G') args s 0 0 (gFree X)) (F0 m 39 ls []) := by
  unfold k_X11_readLawLine_39 at hok
  refine lv_aload_n fx.1 fx.2.1 dX11_readLawLine_39 rfl (lv_at hl 0 rfl) ?_
  refine g_getr fx hw h0 lf_RX11_13 rfl dX11_readLawLine_40 hok (fun a8 h_a8 hok => ?_)
  refine lv_iload_n fx.1 fx.2.1 dX11_readLawLine_43 rfl (lv_at hl 1 rfl) ?_
  refine lv_iload_n fx.1 fx.2.1 dX11_readLawLine_44 rfl (lv_at hl 2 rfl) ?_
  refine g_if_eq (tgt := 52) fx dX11_readLawLine_45 (by decide) hok (fun hok => ?_) (fun hok => ?_)
  · refine lv_aload_n fx.1 fx.2.1 dX11_readLawLine_52 rfl (lv_at hl 0 rfl) ?_
    refine g_ldcS fx hS gt_RX11_240 dX11_readLawLine_53 (fun w9 h_w9 => ?_)
    obtain ⟨v10, hf, hok⟩ := gOk_bind hok
    refine g_callV0 (κ := 11) fx hw (c_X11_isWord l X τ n hS x0 s_bear G h0 h_w9 hf) lv_RX11_111 ⟨rfl, rfl⟩ rfl rfl h0 rfl hl.1 rfl ⟨Nat.le_of_ble_eq_true rfl, Nat.le_of_ble_eq_true rfl⟩ (Nat.le_of_ble_eq_true rfl) ⟨Nat.le_of_ble_eq_true rfl, Nat.le_of_ble_eq_true rfl⟩ dX11_readLawLine_55 (fun H locs hw => ?_)
    refine g_if_eq (tgt := 65) fx dX11_readLawLine_58 (by decide) hok (fun hok => ?_) (fun hok => ?_)
    · refine lv_iconst (v := (-1)) fx.1 fx.2.1 dX11_readLawLine_65 (by decide) ?_
      exact w_X11_readLawLine_66 fx hS n x0 x2 a8 x2 (-1 : Int32) h0 h_a8 hr hw (lv_sub hl [0, 1] rfl) hok
    · refine lv_iconst (v := 1) fx.1 fx.2.1 dX11_readLawLine_61 (by decide) ?_
      refine lv_goto (tgt := 66) fx.1 fx.2.1 dX11_readLawLine_62 (by decide) ?_
      exact w_X11_readLawLine_66 fx hS n x0 x2 a8 x2 (1 : Int32) h0 h_a8 hr hw (lv_sub hl [0, 1] rfl) hok
  · refine lv_iconst (v := 0) fx.1 fx.2.1 dX11_readLawLine_48 (by decide) ?_
    refine lv_goto (tgt := 66) fx.1 fx.2.1 dX11_readLawLine_49 (by decide) ?_
    exact w_X11_readLawLine_66 fx hS n x0 x2 a8 x2 (0 : Int32) h0 h_a8 hr hw (lv_sub hl [0, 1] rfl) hok
set_option maxHeartbeats 4000000 in
set_option maxRecDepth 100000 in
theorem c_X11_readLawLine (l : Launch) (X : gX) (τ : gτ) (n : Nat) (hS : gS0 l X) (x0 : Nat) (x1 : Int32) (G : gG) (h0 : gK τ x0 11) {r : Int32} {G' : gG} (h : f_X11_readLawLine τ n x0 x1 G = some (r, G')) : gM l X τ yX11_readLawLine cX11_readLawLine 4 (some .boolean) rm_X11_readLawLine [.ref x0, .int x1] G (some (.int r)) G' := by
  refine g_body (by decide +kernel) (Nat.le_of_ble_eq_true rfl) ?_
  intro p e s m args below meth c ls fx hr hw hl
  have fx : gFx X p s m args meth c cX11_readLawLine 4 RX11 := fx
  have hl : lv_has ls 4 [(0, .ref x0), (1, .int x1)] := hl
  have hok : gOk (f_X11_readLawLine τ n x0 x1 G) (fun q => q = (r, G')) := ⟨_, h, rfl⟩
  unfold f_X11_readLawLine at hok
  show W p l e rm_X11_readLawLine s m args below meth c s.heap [] 0 0 (MQ below (gQ X τ (some (.int r)) G') args s 0 0 (gFree X)) _
  refine lv_sipush (v := 1317) fx.1 fx.2.1 dX11_readLawLine_0 (by decide) ?_
  refine lv_iconst (v := 4) fx.1 fx.2.1 dX11_readLawLine_3 (by decide) ?_
  refine lv_iload_n fx.1 fx.2.1 dX11_readLawLine_4 rfl (lv_at hl 1 rfl) ?_
  refine lv_imul fx.1 fx.2.1 dX11_readLawLine_5 ?_
  refine lv_iadd fx.1 fx.2.1 dX11_readLawLine_6 ?_
  refine g_leti hok (fun v1 hok => ?_)
  refine lv_istore_n (lv' := [(2, .int v1), (0, .ref x0), (1, .int x1)]) fx.1 fx.2.1 dX11_readLawLine_7 rfl hl (by decide) rfl (fun ls hl => ?_)
  refine lv_aload_n fx.1 fx.2.1 dX11_readLawLine_8 rfl (lv_at hl 1 rfl) ?_
  refine g_ldcS fx hS gt_RX11_238 dX11_readLawLine_9 (fun w2 h_w2 => ?_)
  obtain ⟨v3, hf, hok⟩ := gOk_bind hok
  refine g_callV0 (κ := 11) fx hw (c_X11_isWord l X τ n hS x0 s_wear G h0 h_w2 hf) lv_RX11_111 ⟨rfl, rfl⟩ rfl rfl h0 rfl hl.1 rfl ⟨Nat.le_of_ble_eq_true rfl, Nat.le_of_ble_eq_true rfl⟩ (Nat.le_of_ble_eq_true rfl) ⟨Nat.le_of_ble_eq_true rfl, Nat.le_of_ble_eq_true rfl⟩ dX11_readLawLine_11 (fun H locs hw => ?_)
  refine lv_istore_n (lv' := [(3, .int v3), (2, .int v1), (0, .ref x0), (1, .int x1)]) fx.1 fx.2.1 dX11_readLawLine_14 rfl hl (by decide) rfl (fun ls hl => ?_)
  refine lv_iload_n fx.1 fx.2.1 dX11_readLawLine_15 rfl (lv_at hl 0 rfl) ?_
  refine g_if_ne (tgt := 39) fx dX11_readLawLine_16 (by decide) hok (fun hok => ?_) (fun hok => ?_)
  · refine lv_aload_n fx.1 fx.2.1 dX11_readLawLine_19 rfl (lv_at hl 2 rfl) ?_
    refine g_ldcS fx hS gt_RX11_240 dX11_readLawLine_20 (fun w4 h_w4 => ?_)
    obtain ⟨v5, hf, hok⟩ := gOk_bind hok
    refine g_callV0 (κ := 11) fx hw (c_X11_isWord l X τ n hS x0 s_bear G h0 h_w4 hf) lv_RX11_111 ⟨rfl, rfl⟩ rfl rfl h0 rfl hl.1 rfl ⟨Nat.le_of_ble_eq_true rfl, Nat.le_of_ble_eq_true rfl⟩ (Nat.le_of_ble_eq_true rfl) ⟨Nat.le_of_ble_eq_true rfl, Nat.le_of_ble_eq_true rfl⟩ dX11_readLawLine_22 (fun H locs hw => ?_)
    refine g_if_ne (tgt := 39) fx dX11_readLawLine_25 (by decide) hok (fun hok => ?_) (fun hok => ?_)
    · refine lv_aload_n fx.1 fx.2.1 dX11_readLawLine_28 rfl (lv_at hl 2 rfl) ?_
      refine g_ldcS fx hS gt_RX11_242 dX11_readLawLine_29 (fun w6 h_w6 => ?_)
      obtain ⟨v7, hf, hok⟩ := gOk_bind hok
      refine g_callV0 (κ := 11) fx hw (c_X11_isWord l X τ n hS x0 s_fail G h0 h_w6 hf) lv_RX11_111 ⟨rfl, rfl⟩ rfl rfl h0 rfl hl.1 rfl ⟨Nat.le_of_ble_eq_true rfl, Nat.le_of_ble_eq_true rfl⟩ (Nat.le_of_ble_eq_true rfl) ⟨Nat.le_of_ble_eq_true rfl, Nat.le_of_ble_eq_true rfl⟩ dX11_readLawLine_31 (fun H locs hw => ?_)
      refine g_if_ne (tgt := 39) fx dX11_readLawLine_34 (by decide) hok (fun hok => ?_) (fun hok => ?_)
      · refine lv_iconst (v := 0) fx.1 fx.2.1 dX11_readLawLine_37 (by decide) ?_
        cases gOk_some hok
        exact g_zret fx hw hr (by decide) dX11_readLawLine_38
      · exact w_X11_readLawLine_39 fx hS n x0 v1 v3  h0  hr hw (lv_sub hl [2, 1, 0] rfl) hok
    · exact w_X11_readLawLine_39 fx hS n x0 v1 v3  h0  hr hw (lv_sub hl [2, 1, 0] rfl) hok
  · exact w_X11_readLawLine_39 fx hS n x0 v1 v3  h0  hr hw (lv_sub hl [2, 1, 0] rfl) hok
