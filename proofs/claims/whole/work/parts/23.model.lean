theorem dX11_hang_0 : decode cX11_hang 0 = .ok (.aload_n 0, 1) := by decide +kernel
theorem dX11_hang_1 : decode cX11_hang 1 = .ok (.iconst 0, 1) := by decide +kernel
theorem dX11_hang_2 : decode cX11_hang 2 = .ok (.putfield 3, 3) := by decide +kernel
theorem dX11_hang_5 : decode cX11_hang 5 = .ok (.aload_n 0, 1) := by decide +kernel
theorem dX11_hang_6 : decode cX11_hang 6 = .ok (.aload_n 0, 1) := by decide +kernel
theorem dX11_hang_7 : decode cX11_hang 7 = .ok (.iload_n 1, 1) := by decide +kernel
theorem dX11_hang_8 : decode cX11_hang 8 = .ok (.invokevirtual 321, 3) := by decide +kernel
theorem dX11_hang_11 : decode cX11_hang 11 = .ok (.iconst 1, 1) := by decide +kernel
theorem dX11_hang_12 : decode cX11_hang 12 = .ok (.invokevirtual 263, 3) := by decide +kernel
theorem dX11_hang_15 : decode cX11_hang 15 = .ok (.ifCond .ne 48, 3) := by decide +kernel
theorem dX11_hang_18 : decode cX11_hang 18 = .ok (.aload_n 0, 1) := by decide +kernel
theorem dX11_hang_19 : decode cX11_hang 19 = .ok (.iload_n 2, 1) := by decide +kernel
theorem dX11_hang_20 : decode cX11_hang 20 = .ok (.iconst 0, 1) := by decide +kernel
theorem dX11_hang_21 : decode cX11_hang 21 = .ok (.sipush 999, 3) := by decide +kernel
theorem dX11_hang_24 : decode cX11_hang 24 = .ok (.invokestatic 69, 3) := by decide +kernel
theorem dX11_hang_27 : decode cX11_hang 27 = .ok (.ifCond .ne 7, 3) := by decide +kernel
theorem dX11_hang_30 : decode cX11_hang 30 = .ok (.iconst 1, 1) := by decide +kernel
theorem dX11_hang_31 : decode cX11_hang 31 = .ok (.goto 4, 3) := by decide +kernel
theorem dX11_hang_34 : decode cX11_hang 34 = .ok (.iconst 0, 1) := by decide +kernel
theorem dX11_hang_35 : decode cX11_hang 35 = .ok (.iconst 2, 1) := by decide +kernel
theorem dX11_hang_36 : decode cX11_hang 36 = .ok (.invokevirtual 263, 3) := by decide +kernel
theorem dX11_hang_39 : decode cX11_hang 39 = .ok (.ifCond .ne 24, 3) := by decide +kernel
theorem dX11_hang_42 : decode cX11_hang 42 = .ok (.aload_n 0, 1) := by decide +kernel
theorem dX11_hang_43 : decode cX11_hang 43 = .ok (.aload_n 0, 1) := by decide +kernel
theorem dX11_hang_44 : decode cX11_hang 44 = .ok (.iload_n 1, 1) := by decide +kernel
theorem dX11_hang_45 : decode cX11_hang 45 = .ok (.invokevirtual 146, 3) := by decide +kernel
theorem dX11_hang_48 : decode cX11_hang 48 = .ok (.ifCond .ne 7, 3) := by decide +kernel
theorem dX11_hang_51 : decode cX11_hang 51 = .ok (.iconst 1, 1) := by decide +kernel
theorem dX11_hang_52 : decode cX11_hang 52 = .ok (.goto 4, 3) := by decide +kernel
theorem dX11_hang_55 : decode cX11_hang 55 = .ok (.iconst 0, 1) := by decide +kernel
theorem dX11_hang_56 : decode cX11_hang 56 = .ok (.iconst 3, 1) := by decide +kernel
theorem dX11_hang_57 : decode cX11_hang 57 = .ok (.invokevirtual 263, 3) := by decide +kernel
theorem dX11_hang_60 : decode cX11_hang 60 = .ok (.ifCond .eq 5, 3) := by decide +kernel
theorem dX11_hang_63 : decode cX11_hang 63 = .ok (.iconst 0, 1) := by decide +kernel
theorem dX11_hang_64 : decode cX11_hang 64 = .ok (.ireturn, 1) := by decide +kernel
theorem dX11_hang_65 : decode cX11_hang 65 = .ok (.aload_n 0, 1) := by decide +kernel
theorem dX11_hang_66 : decode cX11_hang 66 = .ok (.invokevirtual 346, 3) := by decide +kernel
theorem dX11_hang_69 : decode cX11_hang 69 = .ok (.aload_n 0, 1) := by decide +kernel
theorem dX11_hang_70 : decode cX11_hang 70 = .ok (.iload_n 1, 1) := by decide +kernel
theorem dX11_hang_71 : decode cX11_hang 71 = .ok (.bipush 9, 2) := by decide +kernel
theorem dX11_hang_73 : decode cX11_hang 73 = .ok (.invokevirtual 62, 3) := by decide +kernel
theorem dX11_hang_76 : decode cX11_hang 76 = .ok (.istore_n 3, 1) := by decide +kernel
theorem dX11_hang_77 : decode cX11_hang 77 = .ok (.aload_n 0, 1) := by decide +kernel
theorem dX11_hang_78 : decode cX11_hang 78 = .ok (.getfield 13, 3) := by decide +kernel
theorem dX11_hang_81 : decode cX11_hang 81 = .ok (.iload_n 1, 1) := by decide +kernel
theorem dX11_hang_82 : decode cX11_hang 82 = .ok (.bipush 9, 2) := by decide +kernel
theorem dX11_hang_84 : decode cX11_hang 84 = .ok (.invokestatic 59, 3) := by decide +kernel
theorem dX11_hang_87 : decode cX11_hang 87 = .ok (.iload_n 2, 1) := by decide +kernel
theorem dX11_hang_88 : decode cX11_hang 88 = .ok (.iastore, 1) := by decide +kernel
theorem dX11_hang_89 : decode cX11_hang 89 = .ok (.iload_n 3, 1) := by decide +kernel
theorem dX11_hang_90 : decode cX11_hang 90 = .ok (.ireturn, 1) := by decide +kernel
def rm_X11_hang : Room := { frames := 3, cells := 0, slots := 0, locals := 64 }
def k_X11_hang_56 (τ : gτ) (n : Nat) (x0 : Nat) (x1 : Int32) (x2 : Int32) (s0 : Nat) (s1 : Int32) (G : gG) : Option (Int32 × gG) :=
  gBind2 (f_X11_throwsIf s0 s1 (3 : Int32) G) fun v9 G10 =>
  if v9 = 0 then ((f_X11_remembers τ n x0 G10).bind fun G11 =>
  (f_X11_of τ x0 x1 (9 : Int32) G11).bind fun v12 =>
  (gr G11 11 1 x0).bind fun a13 =>
  (f_X11_at x1 (9 : Int32)).bind fun v14 =>
  gchk (gIn v14 (gn τ a13)) <| gLet (gse G11 a13 (Int32.toNatClampNeg v14) x2) fun G15 =>
  some (v12, G15))
  else (some (0, G10))
def k_X11_hang_35 (τ : gτ) (n : Nat) (x0 : Nat) (x1 : Int32) (x2 : Int32) (s0 : Nat) (s1 : Int32) (G : gG) : Option (Int32 × gG) :=
  gBind2 (f_X11_throwsIf s0 s1 (2 : Int32) G) fun v6 G7 =>
  if v6 = 0 then ((f_X11_isWhole τ x0 x1 G7).bind fun v8 =>
  if v8 = 0 then (k_X11_hang_56 τ n x0 x1 x2 x0 (1 : Int32) G7)
  else (k_X11_hang_56 τ n x0 x1 x2 x0 (0 : Int32) G7))
  else (some (0, G7))
def f_X11_hang (τ : gτ) (n : Nat) (x0 : Nat) (x1 : Int32) (x2 : Int32) (G : gG) : Option (Int32 × gG) :=
  gLet (gsi G 11 0 x0 (0 : Int32)) fun G1 =>
  (f_X11_noRope τ x0 x1 G1).bind fun v2 =>
  gBind2 (f_X11_throwsIf x0 v2 (1 : Int32) G1) fun v3 G4 =>
  if v3 = 0 then ((f_X11_in x2 (0 : Int32) (999 : Int32)).bind fun v5 =>
  if v5 = 0 then (k_X11_hang_35 τ n x0 x1 x2 x0 (1 : Int32) G4)
  else (k_X11_hang_35 τ n x0 x1 x2 x0 (0 : Int32) G4))
  else (some (0, G4))
set_option maxHeartbeats 4000000 in
set_option maxRecDepth 100000 in
theorem w_X11_hang_56 {X : gX} {τ : gτ} {p : Program} {l : Launch} {e : Env} {s : State} {m : MethodId} {args : Array Value} {below : List Frame} {meth : Method} {c : Code} (fx : gFx X p s m args meth c cX11_hang 4 RX11) (n : Nat) (x0 : Nat) (x1 : Int32) (x2 : Int32) (s0 : Nat) (s1 : Int32) (h0 : gK τ x0 11) (hs0 : gK τ s0 11) (hr : meth.sig.returnType = (some .int)) {r : Int32} {G' : gG} {G : gG} {H : Heap} {locs : List Loc} {ls : Array Slot} (hw : gHw X τ G H locs) (hl : lv_has ls 4 [(0, .ref x0), (1, .int x1), (2, .int x2)]) (hok : gOk (k_X11_hang_56 τ n x0 x1 x2 s0 s1 G) (fun q => q = (r, G')))  : W p l e rm_X11_hang s m args below meth c H locs 0 0 (MQ below (gQ X τ (some (.int r)) G') args s 0 0 (gFree X)) (F0 m 56 ls [.int s1, .ref s0]) := by
  unfold k_X11_hang_56 at hok
  refine lv_iconst (v := 3) fx.1 fx.2.1 dX11_hang_56 (by decide) ?_
  obtain ⟨v9, G10, hf, hok⟩ := gOk_bind2 hok
  refine g_callV0 (κ := 11) fx hw (c_X11_throwsIf l X τ s0 s1 (3 : Int32) G hs0 hf) lv_RX11_263 ⟨rfl, rfl⟩ rfl rfl hs0 rfl hl.1 rfl ⟨Nat.le_of_ble_eq_true rfl, Nat.le_of_ble_eq_true rfl⟩ (Nat.le_of_ble_eq_true rfl) ⟨Nat.le_of_ble_eq_true rfl, Nat.le_of_ble_eq_true rfl⟩ dX11_hang_57 (fun H locs hw => ?_)
  refine g_if_eq (tgt := 65) fx dX11_hang_60 (by decide) hok (fun hok => ?_) (fun hok => ?_)
  · refine lv_aload_n fx.1 fx.2.1 dX11_hang_65 rfl (lv_at hl 0 rfl) ?_
    obtain ⟨G11, hf, hok⟩ := gOk_bind hok
    refine g_callV0 (κ := 11) fx hw (c_X11_remembers l X τ n x0 G10 h0 hf) lv_RX11_346 ⟨rfl, rfl⟩ rfl rfl h0 rfl hl.1 rfl ⟨Nat.le_of_ble_eq_true rfl, Nat.le_of_ble_eq_true rfl⟩ (Nat.le_of_ble_eq_true rfl) ⟨Nat.le_of_ble_eq_true rfl, Nat.le_of_ble_eq_true rfl⟩ dX11_hang_66 (fun H locs hw => ?_)
    refine lv_aload_n fx.1 fx.2.1 dX11_hang_69 rfl (lv_at hl 0 rfl) ?_
    refine lv_iload_n fx.1 fx.2.1 dX11_hang_70 rfl (lv_at hl 1 rfl) ?_
    refine lv_bipush (v := 9) fx.1 fx.2.1 dX11_hang_71 (by decide) ?_
    obtain ⟨v12, hf, hok⟩ := gOk_bind hok
    refine g_callV0 (κ := 11) fx hw (c_X11_of l X τ x0 x1 (9 : Int32) G11 h0 hf) lv_RX11_62 ⟨rfl, rfl⟩ rfl rfl h0 rfl hl.1 rfl ⟨Nat.le_of_ble_eq_true rfl, Nat.le_of_ble_eq_true rfl⟩ (Nat.le_of_ble_eq_true rfl) ⟨Nat.le_of_ble_eq_true rfl, Nat.le_of_ble_eq_true rfl⟩ dX11_hang_73 (fun H locs hw => ?_)
    refine lv_istore_n (lv' := [(3, .int v12), (0, .ref x0), (1, .int x1), (2, .int x2)]) fx.1 fx.2.1 dX11_hang_76 rfl hl (by decide) rfl (fun ls hl => ?_)
    refine lv_aload_n fx.1 fx.2.1 dX11_hang_77 rfl (lv_at hl 1 rfl) ?_
    refine g_getr fx hw h0 lf_RX11_13 rfl dX11_hang_78 hok (fun a13 h_a13 hok => ?_)
    refine lv_iload_n fx.1 fx.2.1 dX11_hang_81 rfl (lv_at hl 2 rfl) ?_
    refine lv_bipush (v := 9) fx.1 fx.2.1 dX11_hang_82 (by decide) ?_
    obtain ⟨v14, hf, hok⟩ := gOk_bind hok
    refine g_callS0 fx hw (c_X11_at l X τ x1 (9 : Int32) G11  hf) ls_RX11_59 ⟨rfl, rfl⟩ rfl hl.1 rfl ⟨Nat.le_of_ble_eq_true rfl, Nat.le_of_ble_eq_true rfl⟩ (Nat.le_of_ble_eq_true rfl) ⟨Nat.le_of_ble_eq_true rfl, Nat.le_of_ble_eq_true rfl⟩ dX11_hang_84 (fun H locs hw => ?_)
    refine lv_iload_n fx.1 fx.2.1 dX11_hang_87 rfl (lv_at hl 3 rfl) ?_
    refine g_iast fx hw h_a13 dX11_hang_88 hok (fun G15 H locs hw hok => ?_)
    refine lv_iload_n fx.1 fx.2.1 dX11_hang_89 rfl (lv_at hl 0 rfl) ?_
    cases gOk_some hok
    exact g_iret fx hw hr dX11_hang_90
  · refine lv_iconst (v := 0) fx.1 fx.2.1 dX11_hang_63 (by decide) ?_
    cases gOk_some hok
    exact g_iret fx hw hr dX11_hang_64
set_option maxHeartbeats 4000000 in
set_option maxRecDepth 100000 in
theorem w_X11_hang_35 {X : gX} {τ : gτ} {p : Program} {l : Launch} {e : Env} {s : State} {m : MethodId} {args : Array Value} {below : List Frame} {meth : Method} {c : Code} (fx : gFx X p s m args meth c cX11_hang 4 RX11) (n : Nat) (x0 : Nat) (x1 : Int32) (x2 : Int32) (s0 : Nat) (s1 : Int32) (h0 : gK τ x0 11) (hs0 : gK τ s0 11) (hr : meth.sig.returnType = (some .int)) {r : Int32} {G' : gG} {G : gG} {H : Heap} {locs : List Loc} {ls : Array Slot} (hw : gHw X τ G H locs) (hl : lv_has ls 4 [(0, .ref x0), (1, .int x1), (2, .int x2)]) (hok : gOk (k_X11_hang_35 τ n x0 x1 x2 s0 s1 G) (fun q => q = (r, G')))  : W p l e rm_X11_hang s m args below meth c H locs 0 0 (MQ below (gQ X τ (some (.int r)) G') args s 0 0 (gFree X)) (F0 m 35 ls [.int s1, .ref s0]) := by
  unfold k_X11_hang_35 at hok
  refine lv_iconst (v := 2) fx.1 fx.2.1 dX11_hang_35 (by decide) ?_
  obtain ⟨v6, G7, hf, hok⟩ := gOk_bind2 hok
  refine g_callV0 (κ := 11) fx hw (c_X11_throwsIf l X τ s0 s1 (2 : Int32) G hs0 hf) lv_RX11_263 ⟨rfl, rfl⟩ rfl rfl hs0 rfl hl.1 rfl ⟨Nat.le_of_ble_eq_true rfl, Nat.le_of_ble_eq_true rfl⟩ (Nat.le_of_ble_eq_true rfl) ⟨Nat.le_of_ble_eq_true rfl, Nat.le_of_ble_eq_true rfl⟩ dX11_hang_36 (fun H locs hw => ?_)
  refine g_if_ne (tgt := 63) fx dX11_hang_39 (by decide) hok (fun hok => ?_) (fun hok => ?_)
  · refine lv_aload_n fx.1 fx.2.1 dX11_hang_42 rfl (lv_at hl 0 rfl) ?_
    refine lv_aload_n fx.1 fx.2.1 dX11_hang_43 rfl (lv_at hl 0 rfl) ?_
    refine lv_iload_n fx.1 fx.2.1 dX11_hang_44 rfl (lv_at hl 1 rfl) ?_
    obtain ⟨v8, hf, hok⟩ := gOk_bind hok
    refine g_callV0 (κ := 11) fx hw (c_X11_isWhole l X τ x0 x1 G7 h0 hf) lv_RX11_146 ⟨rfl, rfl⟩ rfl rfl h0 rfl hl.1 rfl ⟨Nat.le_of_ble_eq_true rfl, Nat.le_of_ble_eq_true rfl⟩ (Nat.le_of_ble_eq_true rfl) ⟨Nat.le_of_ble_eq_true rfl, Nat.le_of_ble_eq_true rfl⟩ dX11_hang_45 (fun H locs hw => ?_)
    refine g_if_ne (tgt := 55) fx dX11_hang_48 (by decide) hok (fun hok => ?_) (fun hok => ?_)
    · refine lv_iconst (v := 1) fx.1 fx.2.1 dX11_hang_51 (by decide) ?_
      refine lv_goto (tgt := 56) fx.1 fx.2.1 dX11_hang_52 (by decide) ?_
      exact w_X11_hang_56 fx n x0 x1 x2 x0 (1 : Int32) h0 h0 hr hw (lv_sub hl [0, 1, 2] rfl) hok
    · refine lv_iconst (v := 0) fx.1 fx.2.1 dX11_hang_55 (by decide) ?_
      exact w_X11_hang_56 fx n x0 x1 x2 x0 (0 : Int32) h0 h0 hr hw (lv_sub hl [0, 1, 2] rfl) hok
  · refine lv_iconst (v := 0) fx.1 fx.2.1 dX11_hang_63 (by decide) ?_
    cases gOk_some hok
    exact g_iret fx hw hr dX11_hang_64
set_option maxHeartbeats 4000000 in
set_option maxRecDepth 100000 in
theorem c_X11_hang (l : Launch) (X : gX) (τ : gτ) (n : Nat) (x0 : Nat) (x1 : Int32) (x2 : Int32) (G : gG) (h0 : gK τ x0 11) {r : Int32} {G' : gG} (h : f_X11_hang τ n x0 x1 x2 G = some (r, G')) : gM l X τ yX11_hang cX11_hang 4 (some .int) rm_X11_hang [.ref x0, .int x1, .int x2] G (some (.int r)) G' := by
  refine g_body (by decide +kernel) (Nat.le_of_ble_eq_true rfl) ?_
  intro p e s m args below meth c ls fx hr hw hl
  have fx : gFx X p s m args meth c cX11_hang 4 RX11 := fx
  have hl : lv_has ls 4 [(0, .ref x0), (1, .int x1), (2, .int x2)] := hl
  have hok : gOk (f_X11_hang τ n x0 x1 x2 G) (fun q => q = (r, G')) := ⟨_, h, rfl⟩
  unfold f_X11_hang at hok
  show W p l e rm_X11_hang s m args below meth c s.heap [] 0 0 (MQ below (gQ X τ (some (.int r)) G') args s 0 0 (gFree X)) _
  refine lv_aload_n fx.1 fx.2.1 dX11_hang_0 rfl (lv_at hl 0 rfl) ?_
  refine lv_iconst (v := 0) fx.1 fx.2.1 dX11_hang_1 (by decide) ?_
  refine g_puti fx hw h0 lp_RX11_3 rfl rfl dX11_hang_2 hok (fun G1 H locs hw hok => ?_)
  refine lv_aload_n fx.1 fx.2.1 dX11_hang_5 rfl (lv_at hl 0 rfl) ?_
  refine lv_aload_n fx.1 fx.2.1 dX11_hang_6 rfl (lv_at hl 0 rfl) ?_
  refine lv_iload_n fx.1 fx.2.1 dX11_hang_7 rfl (lv_at hl 1 rfl) ?_
  obtain ⟨v2, hf, hok⟩ := gOk_bind hok
  refine g_callV0 (κ := 11) fx hw (c_X11_noRope l X τ x0 x1 G1 h0 hf) lv_RX11_321 ⟨rfl, rfl⟩ rfl rfl h0 rfl hl.1 rfl ⟨Nat.le_of_ble_eq_true rfl, Nat.le_of_ble_eq_true rfl⟩ (Nat.le_of_ble_eq_true rfl) ⟨Nat.le_of_ble_eq_true rfl, Nat.le_of_ble_eq_true rfl⟩ dX11_hang_8 (fun H locs hw => ?_)
  refine lv_iconst (v := 1) fx.1 fx.2.1 dX11_hang_11 (by decide) ?_
  obtain ⟨v3, G4, hf, hok⟩ := gOk_bind2 hok
  refine g_callV0 (κ := 11) fx hw (c_X11_throwsIf l X τ x0 v2 (1 : Int32) G1 h0 hf) lv_RX11_263 ⟨rfl, rfl⟩ rfl rfl h0 rfl hl.1 rfl ⟨Nat.le_of_ble_eq_true rfl, Nat.le_of_ble_eq_true rfl⟩ (Nat.le_of_ble_eq_true rfl) ⟨Nat.le_of_ble_eq_true rfl, Nat.le_of_ble_eq_true rfl⟩ dX11_hang_12 (fun H locs hw => ?_)
  refine g_if_ne (tgt := 63) fx dX11_hang_15 (by decide) hok (fun hok => ?_) (fun hok => ?_)
  · refine lv_aload_n fx.1 fx.2.1 dX11_hang_18 rfl (lv_at hl 0 rfl) ?_
    refine lv_iload_n fx.1 fx.2.1 dX11_hang_19 rfl (lv_at hl 2 rfl) ?_
    refine lv_iconst (v := 0) fx.1 fx.2.1 dX11_hang_20 (by decide) ?_
    refine lv_sipush (v := 999) fx.1 fx.2.1 dX11_hang_21 (by decide) ?_
    obtain ⟨v5, hf, hok⟩ := gOk_bind hok
    refine g_callS0 fx hw (c_X11_in l X τ x2 (0 : Int32) (999 : Int32) G4  hf) ls_RX11_69 ⟨rfl, rfl⟩ rfl hl.1 rfl ⟨Nat.le_of_ble_eq_true rfl, Nat.le_of_ble_eq_true rfl⟩ (Nat.le_of_ble_eq_true rfl) ⟨Nat.le_of_ble_eq_true rfl, Nat.le_of_ble_eq_true rfl⟩ dX11_hang_24 (fun H locs hw => ?_)
    refine g_if_ne (tgt := 34) fx dX11_hang_27 (by decide) hok (fun hok => ?_) (fun hok => ?_)
    · refine lv_iconst (v := 1) fx.1 fx.2.1 dX11_hang_30 (by decide) ?_
      refine lv_goto (tgt := 35) fx.1 fx.2.1 dX11_hang_31 (by decide) ?_
      exact w_X11_hang_35 fx n x0 x1 x2 x0 (1 : Int32) h0 h0 hr hw (lv_sub hl [0, 1, 2] rfl) hok
    · refine lv_iconst (v := 0) fx.1 fx.2.1 dX11_hang_34 (by decide) ?_
      exact w_X11_hang_35 fx n x0 x1 x2 x0 (0 : Int32) h0 h0 hr hw (lv_sub hl [0, 1, 2] rfl) hok
  · refine lv_iconst (v := 0) fx.1 fx.2.1 dX11_hang_63 (by decide) ?_
    cases gOk_some hok
    exact g_iret fx hw hr dX11_hang_64
theorem dX11_canMeet_0 : decode cX11_canMeet 0 = .ok (.aload_n 0, 1) := by decide +kernel
theorem dX11_canMeet_1 : decode cX11_canMeet 1 = .ok (.iload_n 2, 1) := by decide +kernel
theorem dX11_canMeet_2 : decode cX11_canMeet 2 = .ok (.invokevirtual 146, 3) := by decide +kernel
theorem dX11_canMeet_5 : decode cX11_canMeet 5 = .ok (.ifCond .eq 46, 3) := by decide +kernel
theorem dX11_canMeet_8 : decode cX11_canMeet 8 = .ok (.aload_n 0, 1) := by decide +kernel
theorem dX11_canMeet_9 : decode cX11_canMeet 9 = .ok (.iload_n 2, 1) := by decide +kernel
theorem dX11_canMeet_10 : decode cX11_canMeet 10 = .ok (.bipush 9, 2) := by decide +kernel
theorem dX11_canMeet_12 : decode cX11_canMeet 12 = .ok (.invokevirtual 62, 3) := by decide +kernel
theorem dX11_canMeet_15 : decode cX11_canMeet 15 = .ok (.ifCond .ne 36, 3) := by decide +kernel
theorem dX11_canMeet_18 : decode cX11_canMeet 18 = .ok (.aload_n 0, 1) := by decide +kernel
theorem dX11_canMeet_19 : decode cX11_canMeet 19 = .ok (.iload_n 2, 1) := by decide +kernel
theorem dX11_canMeet_20 : decode cX11_canMeet 20 = .ok (.iconst 3, 1) := by decide +kernel
theorem dX11_canMeet_21 : decode cX11_canMeet 21 = .ok (.invokevirtual 62, 3) := by decide +kernel
theorem dX11_canMeet_24 : decode cX11_canMeet 24 = .ok (.aload_n 0, 1) := by decide +kernel
theorem dX11_canMeet_25 : decode cX11_canMeet 25 = .ok (.iload_n 1, 1) := by decide +kernel
theorem dX11_canMeet_26 : decode cX11_canMeet 26 = .ok (.iconst 1, 1) := by decide +kernel
theorem dX11_canMeet_27 : decode cX11_canMeet 27 = .ok (.invokevirtual 336, 3) := by decide +kernel
theorem dX11_canMeet_30 : decode cX11_canMeet 30 = .ok (.if_icmp .lt 21, 3) := by decide +kernel
theorem dX11_canMeet_33 : decode cX11_canMeet 33 = .ok (.aload_n 0, 1) := by decide +kernel
theorem dX11_canMeet_34 : decode cX11_canMeet 34 = .ok (.iload_n 2, 1) := by decide +kernel
theorem dX11_canMeet_35 : decode cX11_canMeet 35 = .ok (.invokevirtual 303, 3) := by decide +kernel
theorem dX11_canMeet_38 : decode cX11_canMeet 38 = .ok (.aload_n 0, 1) := by decide +kernel
theorem dX11_canMeet_39 : decode cX11_canMeet 39 = .ok (.iload_n 1, 1) := by decide +kernel
theorem dX11_canMeet_40 : decode cX11_canMeet 40 = .ok (.iconst 0, 1) := by decide +kernel
theorem dX11_canMeet_41 : decode cX11_canMeet 41 = .ok (.invokevirtual 336, 3) := by decide +kernel
theorem dX11_canMeet_44 : decode cX11_canMeet 44 = .ok (.if_icmp .lt 7, 3) := by decide +kernel
theorem dX11_canMeet_47 : decode cX11_canMeet 47 = .ok (.iconst 1, 1) := by decide +kernel
theorem dX11_canMeet_48 : decode cX11_canMeet 48 = .ok (.goto 4, 3) := by decide +kernel
theorem dX11_canMeet_51 : decode cX11_canMeet 51 = .ok (.iconst 0, 1) := by decide +kernel
theorem dX11_canMeet_52 : decode cX11_canMeet 52 = .ok (.ireturn, 1) := by decide +kernel
def rm_X11_canMeet : Room := { frames := 8, cells := 0, slots := 0, locals := 185 }
def f_X11_canMeet (τ : gτ) (n : Nat) (x0 : Nat) (x1 : Int32) (x2 : Int32) (G : gG) : Option (Int32 × gG) :=
  (f_X11_isWhole τ x0 x2 G).bind fun v1 =>
  if v1 = 0 then (some (0, G))
  else ((f_X11_of τ x0 x2 (9 : Int32) G).bind fun v2 =>
  if v2 = 0 then ((f_X11_of τ x0 x2 (3 : Int32) G).bind fun v3 =>
  (f_X11_ofOrder τ x0 x1 (1 : Int32) G).bind fun v4 =>
  if v3 < v4 then (some (0, G))
  else (gBind2 (f_X11_bearsOf τ n x0 x2 G) fun v5 G6 =>
  (f_X11_ofOrder τ x0 x1 (0 : Int32) G6).bind fun v7 =>
  if v5 < v7 then (some (0, G6))
  else (some (1, G6))))
  else (some (0, G)))
set_option maxHeartbeats 4000000 in
set_option maxRecDepth 100000 in
theorem c_X11_canMeet (l : Launch) (X : gX) (τ : gτ) (n : Nat) (x0 : Nat) (x1 : Int32) (x2 : Int32) (G : gG) (h0 : gK τ x0 11) {r : Int32} {G' : gG} (h : f_X11_canMeet τ n x0 x1 x2 G = some (r, G')) : gM l X τ yX11_canMeet cX11_canMeet 3 (some .boolean) rm_X11_canMeet [.ref x0, .int x1, .int x2] G (some (.int r)) G' := by
  refine g_body (by decide +kernel) (Nat.le_of_ble_eq_true rfl) ?_
  intro p e s m args below meth c ls fx hr hw hl
  have fx : gFx X p s m args meth c cX11_canMeet 3 RX11 := fx
  have hl : lv_has ls 3 [(0, .ref x0), (1, .int x1), (2, .int x2)] := hl
  have hok : gOk (f_X11_canMeet τ n x0 x1 x2 G) (fun q => q = (r, G')) := ⟨_, h, rfl⟩
  unfold f_X11_canMeet at hok
  show W p l e rm_X11_canMeet s m args below meth c s.heap [] 0 0 (MQ below (gQ X τ (some (.int r)) G') args s 0 0 (gFree X)) _
  refine lv_aload_n fx.1 fx.2.1 dX11_canMeet_0 rfl (lv_at hl 0 rfl) ?_
  refine lv_iload_n fx.1 fx.2.1 dX11_canMeet_1 rfl (lv_at hl 2 rfl) ?_
  obtain ⟨v1, hf, hok⟩ := gOk_bind hok
  refine g_callV0 (κ := 11) fx hw (c_X11_isWhole l X τ x0 x2 G h0 hf) lv_RX11_146 ⟨rfl, rfl⟩ rfl rfl h0 rfl hl.1 rfl ⟨Nat.le_of_ble_eq_true rfl, Nat.le_of_ble_eq_true rfl⟩ (Nat.le_of_ble_eq_true rfl) ⟨Nat.le_of_ble_eq_true rfl, Nat.le_of_ble_eq_true rfl⟩ dX11_canMeet_2 (fun H locs hw => ?_)
  refine g_if_eq (tgt := 51) fx dX11_canMeet_5 (by decide) hok (fun hok => ?_) (fun hok => ?_)
  · refine lv_iconst (v := 0) fx.1 fx.2.1 dX11_canMeet_51 (by decide) ?_
    cases gOk_some hok
    exact g_zret fx hw hr (by decide) dX11_canMeet_52
  · refine lv_aload_n fx.1 fx.2.1 dX11_canMeet_8 rfl (lv_at hl 0 rfl) ?_
    refine lv_iload_n fx.1 fx.2.1 dX11_canMeet_9 rfl (lv_at hl 2 rfl) ?_
    refine lv_bipush (v := 9) fx.1 fx.2.1 dX11_canMeet_10 (by decide) ?_
    obtain ⟨v2, hf, hok⟩ := gOk_bind hok
    refine g_callV0 (κ := 11) fx hw (c_X11_of l X τ x0 x2 (9 : Int32) G h0 hf) lv_RX11_62 ⟨rfl, rfl⟩ rfl rfl h0 rfl hl.1 rfl ⟨Nat.le_of_ble_eq_true rfl, Nat.le_of_ble_eq_true rfl⟩ (Nat.le_of_ble_eq_true rfl) ⟨Nat.le_of_ble_eq_true rfl, Nat.le_of_ble_eq_true rfl⟩ dX11_canMeet_12 (fun H locs hw => ?_)
    refine g_if_ne (tgt := 51) fx dX11_canMeet_15 (by decide) hok (fun hok => ?_) (fun hok => ?_)
    · refine lv_aload_n fx.1 fx.2.1 dX11_canMeet_18 rfl (lv_at hl 0 rfl) ?_
      refine lv_iload_n fx.1 fx.2.1 dX11_canMeet_19 rfl (lv_at hl 2 rfl) ?_
      refine lv_iconst (v := 3) fx.1 fx.2.1 dX11_canMeet_20 (by decide) ?_
      obtain ⟨v3, hf, hok⟩ := gOk_bind hok
      refine g_callV0 (κ := 11) fx hw (c_X11_of l X τ x0 x2 (3 : Int32) G h0 hf) lv_RX11_62 ⟨rfl, rfl⟩ rfl rfl h0 rfl hl.1 rfl ⟨Nat.le_of_ble_eq_true rfl, Nat.le_of_ble_eq_true rfl⟩ (Nat.le_of_ble_eq_true rfl) ⟨Nat.le_of_ble_eq_true rfl, Nat.le_of_ble_eq_true rfl⟩ dX11_canMeet_21 (fun H locs hw => ?_)
      refine lv_aload_n fx.1 fx.2.1 dX11_canMeet_24 rfl (lv_at hl 0 rfl) ?_
      refine lv_iload_n fx.1 fx.2.1 dX11_canMeet_25 rfl (lv_at hl 1 rfl) ?_
      refine lv_iconst (v := 1) fx.1 fx.2.1 dX11_canMeet_26 (by decide) ?_
      obtain ⟨v4, hf, hok⟩ := gOk_bind hok
      refine g_callV0 (κ := 11) fx hw (c_X11_ofOrder l X τ x0 x1 (1 : Int32) G h0 hf) lv_RX11_336 ⟨rfl, rfl⟩ rfl rfl h0 rfl hl.1 rfl ⟨Nat.le_of_ble_eq_true rfl, Nat.le_of_ble_eq_true rfl⟩ (Nat.le_of_ble_eq_true rfl) ⟨Nat.le_of_ble_eq_true rfl, Nat.le_of_ble_eq_true rfl⟩ dX11_canMeet_27 (fun H locs hw => ?_)
      refine g_icmp_lt (tgt := 51) fx dX11_canMeet_30 (by decide) hok (fun hok => ?_) (fun hok => ?_)
      · refine lv_iconst (v := 0) fx.1 fx.2.1 dX11_canMeet_51 (by decide) ?_
        cases gOk_some hok
        exact g_zret fx hw hr (by decide) dX11_canMeet_52
      · refine lv_aload_n fx.1 fx.2.1 dX11_canMeet_33 rfl (lv_at hl 0 rfl) ?_
        refine lv_iload_n fx.1 fx.2.1 dX11_canMeet_34 rfl (lv_at hl 2 rfl) ?_
        obtain ⟨v5, G6, hf, hok⟩ := gOk_bind2 hok
        refine g_callV0 (κ := 11) fx hw (c_X11_bearsOf l X τ n x0 x2 G h0 hf) lv_RX11_303 ⟨rfl, rfl⟩ rfl rfl h0 rfl hl.1 rfl ⟨Nat.le_of_ble_eq_true rfl, Nat.le_of_ble_eq_true rfl⟩ (Nat.le_of_ble_eq_true rfl) ⟨Nat.le_of_ble_eq_true rfl, Nat.le_of_ble_eq_true rfl⟩ dX11_canMeet_35 (fun H locs hw => ?_)
        refine lv_aload_n fx.1 fx.2.1 dX11_canMeet_38 rfl (lv_at hl 0 rfl) ?_
        refine lv_iload_n fx.1 fx.2.1 dX11_canMeet_39 rfl (lv_at hl 1 rfl) ?_
        refine lv_iconst (v := 0) fx.1 fx.2.1 dX11_canMeet_40 (by decide) ?_
        obtain ⟨v7, hf, hok⟩ := gOk_bind hok
        refine g_callV0 (κ := 11) fx hw (c_X11_ofOrder l X τ x0 x1 (0 : Int32) G6 h0 hf) lv_RX11_336 ⟨rfl, rfl⟩ rfl rfl h0 rfl hl.1 rfl ⟨Nat.le_of_ble_eq_true rfl, Nat.le_of_ble_eq_true rfl⟩ (Nat.le_of_ble_eq_true rfl) ⟨Nat.le_of_ble_eq_true rfl, Nat.le_of_ble_eq_true rfl⟩ dX11_canMeet_41 (fun H locs hw => ?_)
        refine g_icmp_lt (tgt := 51) fx dX11_canMeet_44 (by decide) hok (fun hok => ?_) (fun hok => ?_)
        · refine lv_iconst (v := 0) fx.1 fx.2.1 dX11_canMeet_51 (by decide) ?_
          cases gOk_some hok
          exact g_zret fx hw hr (by decide) dX11_canMeet_52
        · refine lv_iconst (v := 1) fx.1 fx.2.1 dX11_canMeet_47 (by decide) ?_
          refine lv_goto (tgt := 52) fx.1 fx.2.1 dX11_canMeet_48 (by decide) ?_
          cases gOk_some hok
          exact g_zret fx hw hr (by decide) dX11_canMeet_52
    · refine lv_iconst (v := 0) fx.1 fx.2.1 dX11_canMeet_51 (by decide) ?_
      cases gOk_some hok
      exact g_zret fx hw hr (by decide) dX11_canMeet_52
theorem dX11_meet_0 : decode cX11_meet 0 = .ok (.aload_n 0, 1) := by decide +kernel
theorem dX11_meet_1 : decode cX11_meet 1 = .ok (.iconst 0, 1) := by decide +kernel
theorem dX11_meet_2 : decode cX11_meet 2 = .ok (.putfield 3, 3) := by decide +kernel
theorem dX11_meet_5 : decode cX11_meet 5 = .ok (.aload_n 0, 1) := by decide +kernel
theorem dX11_meet_6 : decode cX11_meet 6 = .ok (.aload_n 0, 1) := by decide +kernel
theorem dX11_meet_7 : decode cX11_meet 7 = .ok (.iload_n 1, 1) := by decide +kernel
theorem dX11_meet_8 : decode cX11_meet 8 = .ok (.invokevirtual 333, 3) := by decide +kernel
theorem dX11_meet_11 : decode cX11_meet 11 = .ok (.ifCond .ne 11, 3) := by decide +kernel
theorem dX11_meet_14 : decode cX11_meet 14 = .ok (.aload_n 0, 1) := by decide +kernel
theorem dX11_meet_15 : decode cX11_meet 15 = .ok (.iload_n 2, 1) := by decide +kernel
theorem dX11_meet_16 : decode cX11_meet 16 = .ok (.invokevirtual 321, 3) := by decide +kernel
theorem dX11_meet_19 : decode cX11_meet 19 = .ok (.ifCond .eq 7, 3) := by decide +kernel
theorem dX11_meet_22 : decode cX11_meet 22 = .ok (.iconst 1, 1) := by decide +kernel
theorem dX11_meet_23 : decode cX11_meet 23 = .ok (.goto 4, 3) := by decide +kernel
theorem dX11_meet_26 : decode cX11_meet 26 = .ok (.iconst 0, 1) := by decide +kernel
theorem dX11_meet_27 : decode cX11_meet 27 = .ok (.iconst 1, 1) := by decide +kernel
theorem dX11_meet_28 : decode cX11_meet 28 = .ok (.invokevirtual 263, 3) := by decide +kernel
theorem dX11_meet_31 : decode cX11_meet 31 = .ok (.ifCond .ne 25, 3) := by decide +kernel
theorem dX11_meet_34 : decode cX11_meet 34 = .ok (.aload_n 0, 1) := by decide +kernel
theorem dX11_meet_35 : decode cX11_meet 35 = .ok (.aload_n 0, 1) := by decide +kernel
theorem dX11_meet_36 : decode cX11_meet 36 = .ok (.iload_n 1, 1) := by decide +kernel
theorem dX11_meet_37 : decode cX11_meet 37 = .ok (.iload_n 2, 1) := by decide +kernel
theorem dX11_meet_38 : decode cX11_meet 38 = .ok (.invokevirtual 359, 3) := by decide +kernel
theorem dX11_meet_41 : decode cX11_meet 41 = .ok (.ifCond .ne 7, 3) := by decide +kernel
theorem dX11_meet_44 : decode cX11_meet 44 = .ok (.iconst 1, 1) := by decide +kernel
theorem dX11_meet_45 : decode cX11_meet 45 = .ok (.goto 4, 3) := by decide +kernel
theorem dX11_meet_48 : decode cX11_meet 48 = .ok (.iconst 0, 1) := by decide +kernel
theorem dX11_meet_49 : decode cX11_meet 49 = .ok (.iconst 2, 1) := by decide +kernel
theorem dX11_meet_50 : decode cX11_meet 50 = .ok (.invokevirtual 263, 3) := by decide +kernel
theorem dX11_meet_53 : decode cX11_meet 53 = .ok (.ifCond .eq 5, 3) := by decide +kernel
theorem dX11_meet_56 : decode cX11_meet 56 = .ok (.iconst 0, 1) := by decide +kernel
theorem dX11_meet_57 : decode cX11_meet 57 = .ok (.ireturn, 1) := by decide +kernel
theorem dX11_meet_58 : decode cX11_meet 58 = .ok (.aload_n 0, 1) := by decide +kernel
theorem dX11_meet_59 : decode cX11_meet 59 = .ok (.invokevirtual 346, 3) := by decide +kernel
theorem dX11_meet_62 : decode cX11_meet 62 = .ok (.aload_n 0, 1) := by decide +kernel
theorem dX11_meet_63 : decode cX11_meet 63 = .ok (.iload_n 1, 1) := by decide +kernel
theorem dX11_meet_64 : decode cX11_meet 64 = .ok (.iconst 2, 1) := by decide +kernel
theorem dX11_meet_65 : decode cX11_meet 65 = .ok (.invokevirtual 336, 3) := by decide +kernel
theorem dX11_meet_68 : decode cX11_meet 68 = .ok (.istore_n 3, 1) := by decide +kernel
theorem dX11_meet_69 : decode cX11_meet 69 = .ok (.aload_n 0, 1) := by decide +kernel
theorem dX11_meet_70 : decode cX11_meet 70 = .ok (.getfield 13, 3) := by decide +kernel
theorem dX11_meet_73 : decode cX11_meet 73 = .ok (.iload_n 2, 1) := by decide +kernel
theorem dX11_meet_74 : decode cX11_meet 74 = .ok (.bipush 9, 2) := by decide +kernel
theorem dX11_meet_76 : decode cX11_meet 76 = .ok (.invokestatic 59, 3) := by decide +kernel
theorem dX11_meet_79 : decode cX11_meet 79 = .ok (.aload_n 0, 1) := by decide +kernel
theorem dX11_meet_80 : decode cX11_meet 80 = .ok (.iload_n 1, 1) := by decide +kernel
theorem dX11_meet_81 : decode cX11_meet 81 = .ok (.iconst 0, 1) := by decide +kernel
theorem dX11_meet_82 : decode cX11_meet 82 = .ok (.invokevirtual 336, 3) := by decide +kernel
theorem dX11_meet_85 : decode cX11_meet 85 = .ok (.iastore, 1) := by decide +kernel
theorem dX11_meet_86 : decode cX11_meet 86 = .ok (.sipush 143, 3) := by decide +kernel
theorem dX11_meet_89 : decode cX11_meet 89 = .ok (.iconst 3, 1) := by decide +kernel
theorem dX11_meet_90 : decode cX11_meet 90 = .ok (.iload_n 1, 1) := by decide +kernel
theorem dX11_meet_91 : decode cX11_meet 91 = .ok (.imul, 1) := by decide +kernel
theorem dX11_meet_92 : decode cX11_meet 92 = .ok (.iadd, 1) := by decide +kernel
theorem dX11_meet_93 : decode cX11_meet 93 = .ok (.istore 4, 2) := by decide +kernel
theorem dX11_meet_95 : decode cX11_meet 95 = .ok (.iload 4, 2) := by decide +kernel
theorem dX11_meet_97 : decode cX11_meet 97 = .ok (.iconst 3, 1) := by decide +kernel
theorem dX11_meet_98 : decode cX11_meet 98 = .ok (.iadd, 1) := by decide +kernel
theorem dX11_meet_99 : decode cX11_meet 99 = .ok (.sipush 167, 3) := by decide +kernel
theorem dX11_meet_102 : decode cX11_meet 102 = .ok (.if_icmp .ge 25, 3) := by decide +kernel
theorem dX11_meet_105 : decode cX11_meet 105 = .ok (.aload_n 0, 1) := by decide +kernel
theorem dX11_meet_106 : decode cX11_meet 106 = .ok (.getfield 13, 3) := by decide +kernel
theorem dX11_meet_109 : decode cX11_meet 109 = .ok (.iload 4, 2) := by decide +kernel
theorem dX11_meet_111 : decode cX11_meet 111 = .ok (.aload_n 0, 1) := by decide +kernel
theorem dX11_meet_112 : decode cX11_meet 112 = .ok (.getfield 13, 3) := by decide +kernel
theorem dX11_meet_115 : decode cX11_meet 115 = .ok (.iload 4, 2) := by decide +kernel
theorem dX11_meet_117 : decode cX11_meet 117 = .ok (.iconst 3, 1) := by decide +kernel
theorem dX11_meet_118 : decode cX11_meet 118 = .ok (.iadd, 1) := by decide +kernel
theorem dX11_meet_119 : decode cX11_meet 119 = .ok (.iaload, 1) := by decide +kernel
theorem dX11_meet_120 : decode cX11_meet 120 = .ok (.iastore, 1) := by decide +kernel
theorem dX11_meet_121 : decode cX11_meet 121 = .ok (.iinc 4 1, 3) := by decide +kernel
theorem dX11_meet_124 : decode cX11_meet 124 = .ok (.goto (-29), 3) := by decide +kernel
theorem dX11_meet_127 : decode cX11_meet 127 = .ok (.aload_n 0, 1) := by decide +kernel
theorem dX11_meet_128 : decode cX11_meet 128 = .ok (.getfield 13, 3) := by decide +kernel
theorem dX11_meet_131 : decode cX11_meet 131 = .ok (.iconst 2, 1) := by decide +kernel
theorem dX11_meet_132 : decode cX11_meet 132 = .ok (.dup2, 1) := by decide +kernel
theorem dX11_meet_133 : decode cX11_meet 133 = .ok (.iaload, 1) := by decide +kernel
theorem dX11_meet_134 : decode cX11_meet 134 = .ok (.iconst 1, 1) := by decide +kernel
theorem dX11_meet_135 : decode cX11_meet 135 = .ok (.isub, 1) := by decide +kernel
theorem dX11_meet_136 : decode cX11_meet 136 = .ok (.iastore, 1) := by decide +kernel
theorem dX11_meet_137 : decode cX11_meet 137 = .ok (.aload_n 0, 1) := by decide +kernel
theorem dX11_meet_138 : decode cX11_meet 138 = .ok (.getfield 13, 3) := by decide +kernel
theorem dX11_meet_141 : decode cX11_meet 141 = .ok (.bipush 10, 2) := by decide +kernel
theorem dX11_meet_143 : decode cX11_meet 143 = .ok (.dup2, 1) := by decide +kernel
theorem dX11_meet_144 : decode cX11_meet 144 = .ok (.iaload, 1) := by decide +kernel
theorem dX11_meet_145 : decode cX11_meet 145 = .ok (.iload_n 3, 1) := by decide +kernel
theorem dX11_meet_146 : decode cX11_meet 146 = .ok (.iadd, 1) := by decide +kernel
theorem dX11_meet_147 : decode cX11_meet 147 = .ok (.iastore, 1) := by decide +kernel
theorem dX11_meet_148 : decode cX11_meet 148 = .ok (.iload_n 3, 1) := by decide +kernel
theorem dX11_meet_149 : decode cX11_meet 149 = .ok (.ireturn, 1) := by decide +kernel
theorem lv_RX11_359 : gLv RX11 359 RX11 yX11_canMeet cX11_canMeet 3 (some .boolean) 2 := gLv_of (wA_t (wt8 (List.mem_of_getElem? (i := 153) (by decide +kernel))) (by decide +kernel)) (wA_t (wt8 (List.mem_of_getElem? (i := 155) (by decide +kernel))) (by decide +kernel)) (wA_of (List.mem_append_left _ (List.mem_map.mpr ⟨(⟨"YearRopeModel", "canMeet", "(II)Z"⟩, 20), wp7 (List.mem_of_getElem? (i := 5) (by decide +kernel)), rfl⟩)) (by decide +kernel)) (wA_t (wt1 (List.mem_of_getElem? (i := 12) (by decide +kernel))) (by decide +kernel)) (wA_t (wt8 (List.mem_of_getElem? (i := 156) (by decide +kernel))) (by decide +kernel)) ⟨rfl, by decide +kernel, by decide +kernel, by decide +kernel⟩
def rm_X11_meet : Room := { frames := 9, cells := 0, slots := 0, locals := 207 }
def b_X11_meet_95 (τ : gτ) (n : Nat) (x0 : Nat) (x3 : Int32) (x4 : Int32) (G : gG) : Option ((Int32 × gG) ⊕ ((gG))) :=
  if (167 : Int32) ≤ (x4 + (3 : Int32)) then (some (.inr G))
  else ((gr G 11 1 x0).bind fun a17 =>
  (gr G 11 1 x0).bind fun a18 =>
  gchk (gIn (x4 + (3 : Int32)) (gn τ a18)) <|
  gchk (gIn x4 (gn τ a17)) <| gLet (gse G a17 (Int32.toNatClampNeg x4) (ge G a18 (Int32.toNatClampNeg (x4 + (3 : Int32))))) fun G19 =>
  gLet (x4 + 1) fun v20 =>
  some (.inl (v20, G19)))
def l_X11_meet_95 (τ : gτ) (n : Nat) (x0 : Nat) (x3 : Int32) (x4 : Int32) (G : gG) : Option ((gG)) :=
  gIter (fun (q : Int32 × gG) => b_X11_meet_95 τ n x0 x3 q.1 q.2) n (x4, G)
def k_X11_meet_127 (τ : gτ) (n : Nat) (x0 : Nat) (x3 : Int32)  (G : gG) : Option (Int32 × gG) :=
  (gr G 11 1 x0).bind fun a22 =>
  gchk (gIn (2 : Int32) (gn τ a22)) <|
  gchk (gIn (2 : Int32) (gn τ a22)) <| gLet (gse G a22 (Int32.toNatClampNeg (2 : Int32)) ((ge G a22 (Int32.toNatClampNeg (2 : Int32))) - (1 : Int32))) fun G23 =>
  (gr G23 11 1 x0).bind fun a24 =>
  gchk (gIn (10 : Int32) (gn τ a24)) <|
  gchk (gIn (10 : Int32) (gn τ a24)) <| gLet (gse G23 a24 (Int32.toNatClampNeg (10 : Int32)) ((ge G23 a24 (Int32.toNatClampNeg (10 : Int32))) + x3)) fun G25 =>
  some (x3, G25)
def k_X11_meet_49 (τ : gτ) (n : Nat) (x0 : Nat) (x1 : Int32) (x2 : Int32) (s0 : Nat) (s1 : Int32) (G : gG) : Option (Int32 × gG) :=
  gBind2 (f_X11_throwsIf s0 s1 (2 : Int32) G) fun v8 G9 =>
  if v8 = 0 then ((f_X11_remembers τ n x0 G9).bind fun G10 =>
  (f_X11_ofOrder τ x0 x1 (2 : Int32) G10).bind fun v11 =>
  (gr G10 11 1 x0).bind fun a12 =>
  (f_X11_at x2 (9 : Int32)).bind fun v13 =>
  (f_X11_ofOrder τ x0 x1 (0 : Int32) G10).bind fun v14 =>
  gchk (gIn v13 (gn τ a12)) <| gLet (gse G10 a12 (Int32.toNatClampNeg v13) v14) fun G15 =>
  gLet ((143 : Int32) + ((3 : Int32) * x1)) fun v16 =>
  (l_X11_meet_95 τ n x0 v11 v16 G15).bind fun q => gLet q fun G21 => 
  k_X11_meet_127 τ n x0 v11  G21)
  else (some (0, G9))
def k_X11_meet_27 (τ : gτ) (n : Nat) (x0 : Nat) (x1 : Int32) (x2 : Int32) (s0 : Nat) (s1 : Int32) (G : gG) : Option (Int32 × gG) :=
  gBind2 (f_X11_throwsIf s0 s1 (1 : Int32) G) fun v4 G5 =>
  if v4 = 0 then (gBind2 (f_X11_canMeet τ n x0 x1 x2 G5) fun v6 G7 =>
  if v6 = 0 then (k_X11_meet_49 τ n x0 x1 x2 x0 (1 : Int32) G7)
  else (k_X11_meet_49 τ n x0 x1 x2 x0 (0 : Int32) G7))
  else (some (0, G5))
def k_X11_meet_22 (τ : gτ) (n : Nat) (x0 : Nat) (x1 : Int32) (x2 : Int32) (s0 : Nat) (G : gG) : Option (Int32 × gG) :=
  k_X11_meet_27 τ n x0 x1 x2 s0 (1 : Int32) G
def f_X11_meet (τ : gτ) (n : Nat) (x0 : Nat) (x1 : Int32) (x2 : Int32) (G : gG) : Option (Int32 × gG) :=
  gLet (gsi G 11 0 x0 (0 : Int32)) fun G1 =>
  (f_X11_noOrder τ x0 x1 G1).bind fun v2 =>
  if v2 = 0 then ((f_X11_noRope τ x0 x2 G1).bind fun v3 =>
  if v3 = 0 then (k_X11_meet_27 τ n x0 x1 x2 x0 (0 : Int32) G1)
  else (k_X11_meet_22 τ n x0 x1 x2 x0 G1))
  else (k_X11_meet_22 τ n x0 x1 x2 x0 G1)
set_option maxHeartbeats 4000000 in
set_option maxRecDepth 100000 in
theorem w_b_X11_meet_95 {X : gX} {τ : gτ} {p : Program} {l : Launch} {e : Env} {s : State} {m : MethodId} {args : Array Value} {below : List Frame} {meth : Method} {c : Code} (fx : gFx X p s m args meth c cX11_meet 5 RX11) (n : Nat) (x0 : Nat) (x3 : Int32) (x4 : Int32) (h0 : gK τ x0 11) {Q : State → Prop} {K : ((Int32 × gG) ⊕ ((gG))) → Prop} {G : gG} {H : Heap} {locs : List Loc} {ls : Array Slot} (hw : gHw X τ G H locs) (hl : lv_has ls 5 [(0, .ref x0), (3, .int x3), (4, .int x4)]) (hok : gOk (b_X11_meet_95 τ n x0 x3 x4 G) K) (hc : ∀ (y4 : Int32) (G : gG) (H : Heap) (locs : List Loc) (ls : Array Slot), gHw X τ G H locs → lv_has ls 5 [(0, .ref x0), (3, .int x3), (4, .int y4)] → K (.inl (y4, G)) → W p l e rm_X11_meet s m args below meth c H locs 0 0 Q (F0 m 95 ls [])) (hx0 : ∀ (G : gG) (H : Heap) (locs : List Loc) (ls : Array Slot), gHw X τ G H locs → lv_has ls 5 [(0, .ref x0), (3, .int x3)] → K (.inr G) → W p l e rm_X11_meet s m args below meth c H locs 0 0 Q (F0 m 127 ls [])) : W p l e rm_X11_meet s m args below meth c H locs 0 0 Q (F0 m 95 ls []) := by
  unfold b_X11_meet_95 at hok
  refine lv_iload fx.1 fx.2.1 dX11_meet_95 (lv_at hl 2 rfl) ?_
  refine lv_iconst (v := 3) fx.1 fx.2.1 dX11_meet_97 (by decide) ?_
  refine lv_iadd fx.1 fx.2.1 dX11_meet_98 ?_
  refine lv_sipush (v := 167) fx.1 fx.2.1 dX11_meet_99 (by decide) ?_
  refine g_icmp_ge (tgt := 127) fx dX11_meet_102 (by decide) hok (fun hok => ?_) (fun hok => ?_)
  · exact hx0  G _ _ _  hw (lv_sub hl [0, 1] rfl) (gOk_some hok)
  · refine lv_aload_n fx.1 fx.2.1 dX11_meet_105 rfl (lv_at hl 0 rfl) ?_
    refine g_getr fx hw h0 lf_RX11_13 rfl dX11_meet_106 hok (fun a17 h_a17 hok => ?_)
    refine lv_iload fx.1 fx.2.1 dX11_meet_109 (lv_at hl 2 rfl) ?_
    refine lv_aload_n fx.1 fx.2.1 dX11_meet_111 rfl (lv_at hl 0 rfl) ?_
    refine g_getr fx hw h0 lf_RX11_13 rfl dX11_meet_112 hok (fun a18 h_a18 hok => ?_)
    refine lv_iload fx.1 fx.2.1 dX11_meet_115 (lv_at hl 2 rfl) ?_
    refine lv_iconst (v := 3) fx.1 fx.2.1 dX11_meet_117 (by decide) ?_
    refine lv_iadd fx.1 fx.2.1 dX11_meet_118 ?_
    refine g_iald fx hw h_a18 dX11_meet_119 hok (fun hok => ?_)
    refine g_iast fx hw h_a17 dX11_meet_120 hok (fun G19 H locs hw hok => ?_)
    obtain ⟨v20, e_v20, hok⟩ := gOk_let hok
    refine lv_iinc (v := v20) (lv' := [(4, .int v20), (0, .ref x0), (3, .int x3)]) fx.1 fx.2.1 dX11_meet_121 hl (k := 2) rfl (by rw [e_v20]; rfl) (by decide) rfl (fun ls hl => ?_)
    refine lv_goto (tgt := 95) fx.1 fx.2.1 dX11_meet_124 (by decide) ?_
    exact hc v20 G19 _ _ _  hw (lv_sub hl [1, 2, 0] rfl) (gOk_some hok)
theorem w_l_X11_meet_95 {X : gX} {τ : gτ} {p : Program} {l : Launch} {e : Env} {s : State} {m : MethodId} {args : Array Value} {below : List Frame} {meth : Method} {c : Code} (fx : gFx X p s m args meth c cX11_meet 5 RX11) (n : Nat) (x0 : Nat) (x3 : Int32) (h0 : gK τ x0 11) {Q : State → Prop} {K : ((gG)) → Prop} (hx0 : ∀ (G : gG) (H : Heap) (locs : List Loc) (ls : Array Slot), gHw X τ G H locs → lv_has ls 5 [(0, .ref x0), (3, .int x3)] → K G → W p l e rm_X11_meet s m args below meth c H locs 0 0 Q (F0 m 127 ls [])) : ∀ (k : Nat) (x4 : Int32) (G : gG) (H : Heap) (locs : List Loc) (ls : Array Slot), gHw X τ G H locs → lv_has ls 5 [(0, .ref x0), (3, .int x3), (4, .int x4)] → gOk (gIter (fun (q : Int32 × gG) => b_X11_meet_95 τ n x0 x3 q.1 q.2) k (x4, G)) K → W p l e rm_X11_meet s m args below meth c H locs 0 0 Q (F0 m 95 ls []) := by
  intro k
  induction k with
  | zero =>
    intro x4 G H locs ls hw hl hok
    exact gOk_iter0 hok
  | succ k hc =>
    intro x4 G H locs ls hw hl hok
    exact w_b_X11_meet_95 fx n x0 x3 x4 h0 hw hl (gOk_iter hok) hc hx0
set_option maxHeartbeats 4000000 in
set_option maxRecDepth 100000 in
theorem w_X11_meet_127 {X : gX} {τ : gτ} {p : Program} {l : Launch} {e : Env} {s : State} {m : MethodId} {args : Array Value} {below : List Frame} {meth : Method} {c : Code} (fx : gFx X p s m args meth c cX11_meet 5 RX11) (n : Nat) (x0 : Nat) (x3 : Int32)  (h0 : gK τ x0 11)  (hr : meth.sig.returnType = (some .int)) {r : Int32} {G' : gG} {G : gG} {H : Heap} {locs : List Loc} {ls : Array Slot} (hw : gHw X τ G H locs) (hl : lv_has ls 5 [(0, .ref x0), (3, .int x3)]) (hok : gOk (k_X11_meet_127 τ n x0 x3  G) (fun q => q = (r, G')))  : W p l e rm_X11_meet s m args below meth c H locs 0 0 (MQ below (gQ X τ (some (.int r)) G') args s 0 0 (gFree X)) (F0 m 127 ls []) := by
  unfold k_X11_meet_127 at hok
  refine lv_aload_n fx.1 fx.2.1 dX11_meet_127 rfl (lv_at hl 0 rfl) ?_
  refine g_getr fx hw h0 lf_RX11_13 rfl dX11_meet_128 hok (fun a22 h_a22 hok => ?_)
  refine lv_iconst (v := 2) fx.1 fx.2.1 dX11_meet_131 (by decide) ?_
  refine lv_dup2_11 fx.1 fx.2.1 dX11_meet_132 rfl rfl ?_
  refine g_iald fx hw h_a22 dX11_meet_133 hok (fun hok => ?_)
  refine lv_iconst (v := 1) fx.1 fx.2.1 dX11_meet_134 (by decide) ?_
  refine lv_isub fx.1 fx.2.1 dX11_meet_135 ?_
  refine g_iast fx hw h_a22 dX11_meet_136 hok (fun G23 H locs hw hok => ?_)
  refine lv_aload_n fx.1 fx.2.1 dX11_meet_137 rfl (lv_at hl 0 rfl) ?_
  refine g_getr fx hw h0 lf_RX11_13 rfl dX11_meet_138 hok (fun a24 h_a24 hok => ?_)
  refine lv_bipush (v := 10) fx.1 fx.2.1 dX11_meet_141 (by decide) ?_
  refine lv_dup2_11 fx.1 fx.2.1 dX11_meet_143 rfl rfl ?_
  refine g_iald fx hw h_a24 dX11_meet_144 hok (fun hok => ?_)
  refine lv_iload_n fx.1 fx.2.1 dX11_meet_145 rfl (lv_at hl 1 rfl) ?_
  refine lv_iadd fx.1 fx.2.1 dX11_meet_146 ?_
  refine g_iast fx hw h_a24 dX11_meet_147 hok (fun G25 H locs hw hok => ?_)
  refine lv_iload_n fx.1 fx.2.1 dX11_meet_148 rfl (lv_at hl 1 rfl) ?_
  cases gOk_some hok
  exact g_iret fx hw hr dX11_meet_149
set_option maxHeartbeats 4000000 in
set_option maxRecDepth 100000 in
theorem w_X11_meet_49 {X : gX} {τ : gτ} {p : Program} {l : Launch} {e : Env} {s : State} {m : MethodId} {args : Array Value} {below : List Frame} {meth : Method} {c : Code} (fx : gFx X p s m args meth c cX11_meet 5 RX11) (n : Nat) (x0 : Nat) (x1 : Int32) (x2 : Int32) (s0 : Nat) (s1 : Int32) (h0 : gK τ x0 11) (hs0 : gK τ s0 11) (hr : meth.sig.returnType = (some .int)) {r : Int32} {G' : gG} {G : gG} {H : Heap} {locs : List Loc} {ls : Array Slot} (hw : gHw X τ G H locs) (hl : lv_has ls 5 [(0, .ref x0), (1, .int x1), (2, .int x2)]) (hok : gOk (k_X11_meet_49 τ n x0 x1 x2 s0 s1 G) (fun q => q = (r, G')))  : W p l e rm_X11_meet s m args below meth c H locs 0 0 (MQ below (gQ X τ (some (.int r)) G') args s 0 0 (gFree X)) (F0 m 49 ls [.int s1, .ref s0]) := by
  unfold k_X11_meet_49 at hok
  refine lv_iconst (v := 2) fx.1 fx.2.1 dX11_meet_49 (by decide) ?_
  obtain ⟨v8, G9, hf, hok⟩ := gOk_bind2 hok
  refine g_callV0 (κ := 11) fx hw (c_X11_throwsIf l X τ s0 s1 (2 : Int32) G hs0 hf) lv_RX11_263 ⟨rfl, rfl⟩ rfl rfl hs0 rfl hl.1 rfl ⟨Nat.le_of_ble_eq_true rfl, Nat.le_of_ble_eq_true rfl⟩ (Nat.le_of_ble_eq_true rfl) ⟨Nat.le_of_ble_eq_true rfl, Nat.le_of_ble_eq_true rfl⟩ dX11_meet_50 (fun H locs hw => ?_)
  refine g_if_eq (tgt := 58) fx dX11_meet_53 (by decide) hok (fun hok => ?_) (fun hok => ?_)
  · refine lv_aload_n fx.1 fx.2.1 dX11_meet_58 rfl (lv_at hl 0 rfl) ?_
    obtain ⟨G10, hf, hok⟩ := gOk_bind hok
    refine g_callV0 (κ := 11) fx hw (c_X11_remembers l X τ n x0 G9 h0 hf) lv_RX11_346 ⟨rfl, rfl⟩ rfl rfl h0 rfl hl.1 rfl ⟨Nat.le_of_ble_eq_true rfl, Nat.le_of_ble_eq_true rfl⟩ (Nat.le_of_ble_eq_true rfl) ⟨Nat.le_of_ble_eq_true rfl, Nat.le_of_ble_eq_true rfl⟩ dX11_meet_59 (fun H locs hw => ?_)
    refine lv_aload_n fx.1 fx.2.1 dX11_meet_62 rfl (lv_at hl 0 rfl) ?_
    refine lv_iload_n fx.1 fx.2.1 dX11_meet_63 rfl (lv_at hl 1 rfl) ?_
    refine lv_iconst (v := 2) fx.1 fx.2.1 dX11_meet_64 (by decide) ?_
    obtain ⟨v11, hf, hok⟩ := gOk_bind hok
    refine g_callV0 (κ := 11) fx hw (c_X11_ofOrder l X τ x0 x1 (2 : Int32) G10 h0 hf) lv_RX11_336 ⟨rfl, rfl⟩ rfl rfl h0 rfl hl.1 rfl ⟨Nat.le_of_ble_eq_true rfl, Nat.le_of_ble_eq_true rfl⟩ (Nat.le_of_ble_eq_true rfl) ⟨Nat.le_of_ble_eq_true rfl, Nat.le_of_ble_eq_true rfl⟩ dX11_meet_65 (fun H locs hw => ?_)
    refine lv_istore_n (lv' := [(3, .int v11), (0, .ref x0), (1, .int x1), (2, .int x2)]) fx.1 fx.2.1 dX11_meet_68 rfl hl (by decide) rfl (fun ls hl => ?_)
    refine lv_aload_n fx.1 fx.2.1 dX11_meet_69 rfl (lv_at hl 1 rfl) ?_
    refine g_getr fx hw h0 lf_RX11_13 rfl dX11_meet_70 hok (fun a12 h_a12 hok => ?_)
    refine lv_iload_n fx.1 fx.2.1 dX11_meet_73 rfl (lv_at hl 3 rfl) ?_
    refine lv_bipush (v := 9) fx.1 fx.2.1 dX11_meet_74 (by decide) ?_
    obtain ⟨v13, hf, hok⟩ := gOk_bind hok
    refine g_callS0 fx hw (c_X11_at l X τ x2 (9 : Int32) G10  hf) ls_RX11_59 ⟨rfl, rfl⟩ rfl hl.1 rfl ⟨Nat.le_of_ble_eq_true rfl, Nat.le_of_ble_eq_true rfl⟩ (Nat.le_of_ble_eq_true rfl) ⟨Nat.le_of_ble_eq_true rfl, Nat.le_of_ble_eq_true rfl⟩ dX11_meet_76 (fun H locs hw => ?_)
    refine lv_aload_n fx.1 fx.2.1 dX11_meet_79 rfl (lv_at hl 1 rfl) ?_
    refine lv_iload_n fx.1 fx.2.1 dX11_meet_80 rfl (lv_at hl 2 rfl) ?_
    refine lv_iconst (v := 0) fx.1 fx.2.1 dX11_meet_81 (by decide) ?_
    obtain ⟨v14, hf, hok⟩ := gOk_bind hok
    refine g_callV0 (κ := 11) fx hw (c_X11_ofOrder l X τ x0 x1 (0 : Int32) G10 h0 hf) lv_RX11_336 ⟨rfl, rfl⟩ rfl rfl h0 rfl hl.1 rfl ⟨Nat.le_of_ble_eq_true rfl, Nat.le_of_ble_eq_true rfl⟩ (Nat.le_of_ble_eq_true rfl) ⟨Nat.le_of_ble_eq_true rfl, Nat.le_of_ble_eq_true rfl⟩ dX11_meet_82 (fun H locs hw => ?_)
    refine g_iast fx hw h_a12 dX11_meet_85 hok (fun G15 H locs hw hok => ?_)
    refine lv_sipush (v := 143) fx.1 fx.2.1 dX11_meet_86 (by decide) ?_
    refine lv_iconst (v := 3) fx.1 fx.2.1 dX11_meet_89 (by decide) ?_
    refine lv_iload_n fx.1 fx.2.1 dX11_meet_90 rfl (lv_at hl 2 rfl) ?_
    refine lv_imul fx.1 fx.2.1 dX11_meet_91 ?_
    refine lv_iadd fx.1 fx.2.1 dX11_meet_92 ?_
    refine g_leti hok (fun v16 hok => ?_)
    refine lv_istore (lv' := [(4, .int v16), (3, .int v11), (0, .ref x0), (1, .int x1), (2, .int x2)]) fx.1 fx.2.1 dX11_meet_93 hl (by decide) rfl (fun ls hl => ?_)
    refine w_l_X11_meet_95 fx n x0 v11 h0 ?_ n v16 G15 _ _ _  hw (lv_sub hl [2, 1, 0] rfl) (gOk_bindK hok)
    intro G21 H locs ls hw hl hok
    have hok : gOk (ρ := Int32 × gG) (k_X11_meet_127 τ n x0 v11  G21) _ := hok
    exact w_X11_meet_127 fx n x0 v11  h0  hr hw (lv_sub hl [0, 1] rfl) hok
  · refine lv_iconst (v := 0) fx.1 fx.2.1 dX11_meet_56 (by decide) ?_
    cases gOk_some hok
    exact g_iret fx hw hr dX11_meet_57
set_option maxHeartbeats 4000000 in
set_option maxRecDepth 100000 in
theorem w_X11_meet_27 {X : gX} {τ : gτ} {p : Program} {l : Launch} {e : Env} {s : State} {m : MethodId} {args : Array Value} {below : List Frame} {meth : Method} {c : Code} (fx : gFx X p s m args meth c cX11_meet 5 RX11) (n : Nat) (x0 : Nat) (x1 : Int32) (x2 : Int32) (s0 : Nat) (s1 : Int32) (h0 : gK τ x0 11) (hs0 : gK τ s0 11) (hr : meth.sig.returnType = (some .int)) {r : Int32} {G' : gG} {G : gG} {H : Heap} {locs : List Loc} {ls : Array Slot} (hw : gHw X τ G H locs) (hl : lv_has ls 5 [(0, .ref x0), (1, .int x1), (2, .int x2)]) (hok : gOk (k_X11_meet_27 τ n x0 x1 x2 s0 s1 G) (fun q => q = (r, G')))  : W p l e rm_X11_meet s m args below meth c H locs 0 0 (MQ below (gQ X τ (some (.int r)) G') args s 0 0 (gFree X)) (F0 m 27 ls [.int s1, .ref s0]) := by
  unfold k_X11_meet_27 at hok
  refine lv_iconst (v := 1) fx.1 fx.2.1 dX11_meet_27 (by decide) ?_
  obtain ⟨v4, G5, hf, hok⟩ := gOk_bind2 hok
  refine g_callV0 (κ := 11) fx hw (c_X11_throwsIf l X τ s0 s1 (1 : Int32) G hs0 hf) lv_RX11_263 ⟨rfl, rfl⟩ rfl rfl hs0 rfl hl.1 rfl ⟨Nat.le_of_ble_eq_true rfl, Nat.le_of_ble_eq_true rfl⟩ (Nat.le_of_ble_eq_true rfl) ⟨Nat.le_of_ble_eq_true rfl, Nat.le_of_ble_eq_true rfl⟩ dX11_meet_28 (fun H locs hw => ?_)
  refine g_if_ne (tgt := 56) fx dX11_meet_31 (by decide) hok (fun hok => ?_) (fun hok => ?_)
  · refine lv_aload_n fx.1 fx.2.1 dX11_meet_34 rfl (lv_at hl 0 rfl) ?_
    refine lv_aload_n fx.1 fx.2.1 dX11_meet_35 rfl (lv_at hl 0 rfl) ?_
    refine lv_iload_n fx.1 fx.2.1 dX11_meet_36 rfl (lv_at hl 1 rfl) ?_
    refine lv_iload_n fx.1 fx.2.1 dX11_meet_37 rfl (lv_at hl 2 rfl) ?_
    obtain ⟨v6, G7, hf, hok⟩ := gOk_bind2 hok
    refine g_callV0 (κ := 11) fx hw (c_X11_canMeet l X τ n x0 x1 x2 G5 h0 hf) lv_RX11_359 ⟨rfl, rfl⟩ rfl rfl h0 rfl hl.1 rfl ⟨Nat.le_of_ble_eq_true rfl, Nat.le_of_ble_eq_true rfl⟩ (Nat.le_of_ble_eq_true rfl) ⟨Nat.le_of_ble_eq_true rfl, Nat.le_of_ble_eq_true rfl⟩ dX11_meet_38 (fun H locs hw => ?_)
    refine g_if_ne (tgt := 48) fx dX11_meet_41 (by decide) hok (fun hok => ?_) (fun hok => ?_)
    · refine lv_iconst (v := 1) fx.1 fx.2.1 dX11_meet_44 (by decide) ?_
      refine lv_goto (tgt := 49) fx.1 fx.2.1 dX11_meet_45 (by decide) ?_
      exact w_X11_meet_49 fx n x0 x1 x2 x0 (1 : Int32) h0 h0 hr hw (lv_sub hl [0, 1, 2] rfl) hok
    · refine lv_iconst (v := 0) fx.1 fx.2.1 dX11_meet_48 (by decide) ?_
      exact w_X11_meet_49 fx n x0 x1 x2 x0 (0 : Int32) h0 h0 hr hw (lv_sub hl [0, 1, 2] rfl) hok
  · refine lv_iconst (v := 0) fx.1 fx.2.1 dX11_meet_56 (by decide) ?_
    cases gOk_some hok
    exact g_iret fx hw hr dX11_meet_57
set_option maxHeartbeats 4000000 in
set_option maxRecDepth 100000 in
theorem w_X11_meet_22 {X : gX} {τ : gτ} {p : Program} {l : Launch} {e : Env} {s : State} {m : MethodId} {args : Array Value} {below : List Frame} {meth : Method} {c : Code} (fx : gFx X p s m args meth c cX11_meet 5 RX11) (n : Nat) (x0 : Nat) (x1 : Int32) (x2 : Int32) (s0 : Nat) (h0 : gK τ x0 11) (hs0 : gK τ s0 11) (hr : meth.sig.returnType = (some .int)) {r : Int32} {G' : gG} {G : gG} {H : Heap} {locs : List Loc} {ls : Array Slot} (hw : gHw X τ G H locs) (hl : lv_has ls 5 [(0, .ref x0), (1, .int x1), (2, .int x2)]) (hok : gOk (k_X11_meet_22 τ n x0 x1 x2 s0 G) (fun q => q = (r, G')))  : W p l e rm_X11_meet s m args below meth c H locs 0 0 (MQ below (gQ X τ (some (.int r)) G') args s 0 0 (gFree X)) (F0 m 22 ls [.ref s0]) := by
  unfold k_X11_meet_22 at hok
  refine lv_iconst (v := 1) fx.1 fx.2.1 dX11_meet_22 (by decide) ?_
  refine lv_goto (tgt := 27) fx.1 fx.2.1 dX11_meet_23 (by decide) ?_
  exact w_X11_meet_27 fx n x0 x1 x2 s0 (1 : Int32) h0 hs0 hr hw (lv_sub hl [0, 1, 2] rfl) hok
set_option maxHeartbeats 4000000 in
set_option maxRecDepth 100000 in
theorem c_X11_meet (l : Launch) (X : gX) (τ : gτ) (n : Nat) (x0 : Nat) (x1 : Int32) (x2 : Int32) (G : gG) (h0 : gK τ x0 11) {r : Int32} {G' : gG} (h : f_X11_meet τ n x0 x1 x2 G = some (r, G')) : gM l X τ yX11_meet cX11_meet 5 (some .int) rm_X11_meet [.ref x0, .int x1, .int x2] G (some (.int r)) G' := by
  refine g_body (by decide +kernel) (Nat.le_of_ble_eq_true rfl) ?_
  intro p e s m args below meth c ls fx hr hw hl
  have fx : gFx X p s m args meth c cX11_meet 5 RX11 := fx
  have hl : lv_has ls 5 [(0, .ref x0), (1, .int x1), (2, .int x2)] := hl
  have hok : gOk (f_X11_meet τ n x0 x1 x2 G) (fun q => q = (r, G')) := ⟨_, h, rfl⟩
  unfold f_X11_meet at hok
  show W p l e rm_X11_meet s m args below meth c s.heap [] 0 0 (MQ below (gQ X τ (some (.int r)) G') args s 0 0 (gFree X)) _
  refine lv_aload_n fx.1 fx.2.1 dX11_meet_0 rfl (lv_at hl 0 rfl) ?_
  refine lv_iconst (v := 0) fx.1 fx.2.1 dX11_meet_1 (by decide) ?_
  refine g_puti fx hw h0 lp_RX11_3 rfl rfl dX11_meet_2 hok (fun G1 H locs hw hok => ?_)
  refine lv_aload_n fx.1 fx.2.1 dX11_meet_5 rfl (lv_at hl 0 rfl) ?_
  refine lv_aload_n fx.1 fx.2.1 dX11_meet_6 rfl (lv_at hl 0 rfl) ?_
  refine lv_iload_n fx.1 fx.2.1 dX11_meet_7 rfl (lv_at hl 1 rfl) ?_
  obtain ⟨v2, hf, hok⟩ := gOk_bind hok
  refine g_callV0 (κ := 11) fx hw (c_X11_noOrder l X τ x0 x1 G1 h0 hf) lv_RX11_333 ⟨rfl, rfl⟩ rfl rfl h0 rfl hl.1 rfl ⟨Nat.le_of_ble_eq_true rfl, Nat.le_of_ble_eq_true rfl⟩ (Nat.le_of_ble_eq_true rfl) ⟨Nat.le_of_ble_eq_true rfl, Nat.le_of_ble_eq_true rfl⟩ dX11_meet_8 (fun H locs hw => ?_)
  refine g_if_ne (tgt := 22) fx dX11_meet_11 (by decide) hok (fun hok => ?_) (fun hok => ?_)
  · refine lv_aload_n fx.1 fx.2.1 dX11_meet_14 rfl (lv_at hl 0 rfl) ?_
    refine lv_iload_n fx.1 fx.2.1 dX11_meet_15 rfl (lv_at hl 2 rfl) ?_
    obtain ⟨v3, hf, hok⟩ := gOk_bind hok
    refine g_callV0 (κ := 11) fx hw (c_X11_noRope l X τ x0 x2 G1 h0 hf) lv_RX11_321 ⟨rfl, rfl⟩ rfl rfl h0 rfl hl.1 rfl ⟨Nat.le_of_ble_eq_true rfl, Nat.le_of_ble_eq_true rfl⟩ (Nat.le_of_ble_eq_true rfl) ⟨Nat.le_of_ble_eq_true rfl, Nat.le_of_ble_eq_true rfl⟩ dX11_meet_16 (fun H locs hw => ?_)
    refine g_if_eq (tgt := 26) fx dX11_meet_19 (by decide) hok (fun hok => ?_) (fun hok => ?_)
    · refine lv_iconst (v := 0) fx.1 fx.2.1 dX11_meet_26 (by decide) ?_
      exact w_X11_meet_27 fx n x0 x1 x2 x0 (0 : Int32) h0 h0 hr hw (lv_sub hl [0, 1, 2] rfl) hok
    · exact w_X11_meet_22 fx n x0 x1 x2 x0 h0 h0 hr hw (lv_sub hl [0, 1, 2] rfl) hok
  · exact w_X11_meet_22 fx n x0 x1 x2 x0 h0 h0 hr hw (lv_sub hl [0, 1, 2] rfl) hok
theorem dX11_pick_0 : decode cX11_pick 0 = .ok (.aload_n 0, 1) := by decide +kernel
theorem dX11_pick_1 : decode cX11_pick 1 = .ok (.iconst 0, 1) := by decide +kernel
theorem dX11_pick_2 : decode cX11_pick 2 = .ok (.putfield 3, 3) := by decide +kernel
theorem dX11_pick_5 : decode cX11_pick 5 = .ok (.aload_n 0, 1) := by decide +kernel
theorem dX11_pick_6 : decode cX11_pick 6 = .ok (.aload_n 0, 1) := by decide +kernel
theorem dX11_pick_7 : decode cX11_pick 7 = .ok (.iload_n 1, 1) := by decide +kernel
theorem dX11_pick_8 : decode cX11_pick 8 = .ok (.invokevirtual 321, 3) := by decide +kernel
theorem dX11_pick_11 : decode cX11_pick 11 = .ok (.iconst 1, 1) := by decide +kernel
theorem dX11_pick_12 : decode cX11_pick 12 = .ok (.invokevirtual 263, 3) := by decide +kernel
theorem dX11_pick_15 : decode cX11_pick 15 = .ok (.ifCond .eq 5, 3) := by decide +kernel
theorem dX11_pick_18 : decode cX11_pick 18 = .ok (.iconst 0, 1) := by decide +kernel
theorem dX11_pick_19 : decode cX11_pick 19 = .ok (.ireturn, 1) := by decide +kernel
theorem dX11_pick_20 : decode cX11_pick 20 = .ok (.aload_n 0, 1) := by decide +kernel
theorem dX11_pick_21 : decode cX11_pick 21 = .ok (.invokevirtual 346, 3) := by decide +kernel
theorem dX11_pick_24 : decode cX11_pick 24 = .ok (.iload_n 1, 1) := by decide +kernel
theorem dX11_pick_25 : decode cX11_pick 25 = .ok (.iconst 0, 1) := by decide +kernel
theorem dX11_pick_26 : decode cX11_pick 26 = .ok (.invokestatic 59, 3) := by decide +kernel
theorem dX11_pick_29 : decode cX11_pick 29 = .ok (.istore_n 2, 1) := by decide +kernel
theorem dX11_pick_30 : decode cX11_pick 30 = .ok (.iload_n 2, 1) := by decide +kernel
theorem dX11_pick_31 : decode cX11_pick 31 = .ok (.bipush 10, 2) := by decide +kernel
theorem dX11_pick_33 : decode cX11_pick 33 = .ok (.iadd, 1) := by decide +kernel
theorem dX11_pick_34 : decode cX11_pick 34 = .ok (.sipush 143, 3) := by decide +kernel
theorem dX11_pick_37 : decode cX11_pick 37 = .ok (.if_icmp .ge 24, 3) := by decide +kernel
theorem dX11_pick_40 : decode cX11_pick 40 = .ok (.aload_n 0, 1) := by decide +kernel
theorem dX11_pick_41 : decode cX11_pick 41 = .ok (.getfield 13, 3) := by decide +kernel
theorem dX11_pick_44 : decode cX11_pick 44 = .ok (.iload_n 2, 1) := by decide +kernel
theorem dX11_pick_45 : decode cX11_pick 45 = .ok (.aload_n 0, 1) := by decide +kernel
theorem dX11_pick_46 : decode cX11_pick 46 = .ok (.getfield 13, 3) := by decide +kernel
theorem dX11_pick_49 : decode cX11_pick 49 = .ok (.iload_n 2, 1) := by decide +kernel
theorem dX11_pick_50 : decode cX11_pick 50 = .ok (.bipush 10, 2) := by decide +kernel
theorem dX11_pick_52 : decode cX11_pick 52 = .ok (.iadd, 1) := by decide +kernel
theorem dX11_pick_53 : decode cX11_pick 53 = .ok (.iaload, 1) := by decide +kernel
theorem dX11_pick_54 : decode cX11_pick 54 = .ok (.iastore, 1) := by decide +kernel
theorem dX11_pick_55 : decode cX11_pick 55 = .ok (.iinc 2 1, 3) := by decide +kernel
theorem dX11_pick_58 : decode cX11_pick 58 = .ok (.goto (-28), 3) := by decide +kernel
theorem dX11_pick_61 : decode cX11_pick 61 = .ok (.aload_n 0, 1) := by decide +kernel
theorem dX11_pick_62 : decode cX11_pick 62 = .ok (.getfield 13, 3) := by decide +kernel
theorem dX11_pick_65 : decode cX11_pick 65 = .ok (.iconst 1, 1) := by decide +kernel
theorem dX11_pick_66 : decode cX11_pick 66 = .ok (.dup2, 1) := by decide +kernel
theorem dX11_pick_67 : decode cX11_pick 67 = .ok (.iaload, 1) := by decide +kernel
theorem dX11_pick_68 : decode cX11_pick 68 = .ok (.iconst 1, 1) := by decide +kernel
theorem dX11_pick_69 : decode cX11_pick 69 = .ok (.isub, 1) := by decide +kernel
theorem dX11_pick_70 : decode cX11_pick 70 = .ok (.iastore, 1) := by decide +kernel
theorem dX11_pick_71 : decode cX11_pick 71 = .ok (.aload_n 0, 1) := by decide +kernel
theorem dX11_pick_72 : decode cX11_pick 72 = .ok (.invokevirtual 73, 3) := by decide +kernel
theorem dX11_pick_75 : decode cX11_pick 75 = .ok (.ireturn, 1) := by decide +kernel
def rm_X11_pick : Room := { frames := 2, cells := 0, slots := 0, locals := 43 }
def b_X11_pick_30 (τ : gτ) (n : Nat) (x0 : Nat) (x2 : Int32) (G : gG) : Option ((Int32 × gG) ⊕ ((gG))) :=
  if (143 : Int32) ≤ (x2 + (10 : Int32)) then (some (.inr G))
  else ((gr G 11 1 x0).bind fun a7 =>
  (gr G 11 1 x0).bind fun a8 =>
  gchk (gIn (x2 + (10 : Int32)) (gn τ a8)) <|
  gchk (gIn x2 (gn τ a7)) <| gLet (gse G a7 (Int32.toNatClampNeg x2) (ge G a8 (Int32.toNatClampNeg (x2 + (10 : Int32))))) fun G9 =>
  gLet (x2 + 1) fun v10 =>
  some (.inl (v10, G9)))
def l_X11_pick_30 (τ : gτ) (n : Nat) (x0 : Nat) (x2 : Int32) (G : gG) : Option ((gG)) :=
  gIter (fun (q : Int32 × gG) => b_X11_pick_30 τ n x0 q.1 q.2) n (x2, G)
def k_X11_pick_61 (τ : gτ) (n : Nat) (x0 : Nat)  (G : gG) : Option (Int32 × gG) :=
  (gr G 11 1 x0).bind fun a12 =>
  gchk (gIn (1 : Int32) (gn τ a12)) <|
  gchk (gIn (1 : Int32) (gn τ a12)) <| gLet (gse G a12 (Int32.toNatClampNeg (1 : Int32)) ((ge G a12 (Int32.toNatClampNeg (1 : Int32))) - (1 : Int32))) fun G13 =>
  (f_X11_ropes τ x0 G13).bind fun v14 =>
  some (v14, G13)
def f_X11_pick (τ : gτ) (n : Nat) (x0 : Nat) (x1 : Int32) (G : gG) : Option (Int32 × gG) :=
  gLet (gsi G 11 0 x0 (0 : Int32)) fun G1 =>
  (f_X11_noRope τ x0 x1 G1).bind fun v2 =>
  gBind2 (f_X11_throwsIf x0 v2 (1 : Int32) G1) fun v3 G4 =>
  if v3 = 0 then ((f_X11_remembers τ n x0 G4).bind fun G5 =>
  (f_X11_at x1 (0 : Int32)).bind fun v6 =>
  (l_X11_pick_30 τ n x0 v6 G5).bind fun q => gLet q fun G11 => 
  k_X11_pick_61 τ n x0  G11)
  else (some (0, G4))
set_option maxHeartbeats 4000000 in
set_option maxRecDepth 100000 in
theorem w_b_X11_pick_30 {X : gX} {τ : gτ} {p : Program} {l : Launch} {e : Env} {s : State} {m : MethodId} {args : Array Value} {below : List Frame} {meth : Method} {c : Code} (fx : gFx X p s m args meth c cX11_pick 3 RX11) (n : Nat) (x0 : Nat) (x2 : Int32) (h0 : gK τ x0 11) {Q : State → Prop} {K : ((Int32 × gG) ⊕ ((gG))) → Prop} {G : gG} {H : Heap} {locs : List Loc} {ls : Array Slot} (hw : gHw X τ G H locs) (hl : lv_has ls 3 [(0, .ref x0), (2, .int x2)]) (hok : gOk (b_X11_pick_30 τ n x0 x2 G) K) (hc : ∀ (y2 : Int32) (G : gG) (H : Heap) (locs : List Loc) (ls : Array Slot), gHw X τ G H locs → lv_has ls 3 [(0, .ref x0), (2, .int y2)] → K (.inl (y2, G)) → W p l e rm_X11_pick s m args below meth c H locs 0 0 Q (F0 m 30 ls [])) (hx0 : ∀ (G : gG) (H : Heap) (locs : List Loc) (ls : Array Slot), gHw X τ G H locs → lv_has ls 3 [(0, .ref x0)] → K (.inr G) → W p l e rm_X11_pick s m args below meth c H locs 0 0 Q (F0 m 61 ls [])) : W p l e rm_X11_pick s m args below meth c H locs 0 0 Q (F0 m 30 ls []) := by
  unfold b_X11_pick_30 at hok
  refine lv_iload_n fx.1 fx.2.1 dX11_pick_30 rfl (lv_at hl 1 rfl) ?_
  refine lv_bipush (v := 10) fx.1 fx.2.1 dX11_pick_31 (by decide) ?_
  refine lv_iadd fx.1 fx.2.1 dX11_pick_33 ?_
  refine lv_sipush (v := 143) fx.1 fx.2.1 dX11_pick_34 (by decide) ?_
  refine g_icmp_ge (tgt := 61) fx dX11_pick_37 (by decide) hok (fun hok => ?_) (fun hok => ?_)
  · exact hx0  G _ _ _  hw (lv_sub hl [0] rfl) (gOk_some hok)
  · refine lv_aload_n fx.1 fx.2.1 dX11_pick_40 rfl (lv_at hl 0 rfl) ?_
    refine g_getr fx hw h0 lf_RX11_13 rfl dX11_pick_41 hok (fun a7 h_a7 hok => ?_)
    refine lv_iload_n fx.1 fx.2.1 dX11_pick_44 rfl (lv_at hl 1 rfl) ?_
    refine lv_aload_n fx.1 fx.2.1 dX11_pick_45 rfl (lv_at hl 0 rfl) ?_
    refine g_getr fx hw h0 lf_RX11_13 rfl dX11_pick_46 hok (fun a8 h_a8 hok => ?_)
    refine lv_iload_n fx.1 fx.2.1 dX11_pick_49 rfl (lv_at hl 1 rfl) ?_
    refine lv_bipush (v := 10) fx.1 fx.2.1 dX11_pick_50 (by decide) ?_
    refine lv_iadd fx.1 fx.2.1 dX11_pick_52 ?_
    refine g_iald fx hw h_a8 dX11_pick_53 hok (fun hok => ?_)
    refine g_iast fx hw h_a7 dX11_pick_54 hok (fun G9 H locs hw hok => ?_)
    obtain ⟨v10, e_v10, hok⟩ := gOk_let hok
    refine lv_iinc (v := v10) (lv' := [(2, .int v10), (0, .ref x0)]) fx.1 fx.2.1 dX11_pick_55 hl (k := 1) rfl (by rw [e_v10]; rfl) (by decide) rfl (fun ls hl => ?_)
    refine lv_goto (tgt := 30) fx.1 fx.2.1 dX11_pick_58 (by decide) ?_
    exact hc v10 G9 _ _ _  hw (lv_sub hl [1, 0] rfl) (gOk_some hok)
theorem w_l_X11_pick_30 {X : gX} {τ : gτ} {p : Program} {l : Launch} {e : Env} {s : State} {m : MethodId} {args : Array Value} {below : List Frame} {meth : Method} {c : Code} (fx : gFx X p s m args meth c cX11_pick 3 RX11) (n : Nat) (x0 : Nat) (h0 : gK τ x0 11) {Q : State → Prop} {K : ((gG)) → Prop} (hx0 : ∀ (G : gG) (H : Heap) (locs : List Loc) (ls : Array Slot), gHw X τ G H locs → lv_has ls 3 [(0, .ref x0)] → K G → W p l e rm_X11_pick s m args below meth c H locs 0 0 Q (F0 m 61 ls [])) : ∀ (k : Nat) (x2 : Int32) (G : gG) (H : Heap) (locs : List Loc) (ls : Array Slot), gHw X τ G H locs → lv_has ls 3 [(0, .ref x0), (2, .int x2)] → gOk (gIter (fun (q : Int32 × gG) => b_X11_pick_30 τ n x0 q.1 q.2) k (x2, G)) K → W p l e rm_X11_pick s m args below meth c H locs 0 0 Q (F0 m 30 ls []) := by
  intro k
  induction k with
  | zero =>
    intro x2 G H locs ls hw hl hok
    exact gOk_iter0 hok
  | succ k hc =>
    intro x2 G H locs ls hw hl hok
    exact w_b_X11_pick_30 fx n x0 x2 h0 hw hl (gOk_iter hok) hc hx0
set_option maxHeartbeats 4000000 in
set_option maxRecDepth 100000 in
theorem w_X11_pick_61 {X : gX} {τ : gτ} {p : Program} {l : Launch} {e : Env} {s : State} {m : MethodId} {args : Array Value} {below : List Frame} {meth : Method} {c : Code} (fx : gFx X p s m args meth c cX11_pick 3 RX11) (n : Nat) (x0 : Nat)  (h0 : gK τ x0 11)  (hr : meth.sig.returnType = (some .int)) {r : Int32} {G' : gG} {G : gG} {H : Heap} {locs : List Loc} {ls : Array Slot} (hw : gHw X τ G H locs) (hl : lv_has ls 3 [(0, .ref x0)]) (hok : gOk (k_X11_pick_61 τ n x0  G) (fun q => q = (r, G')))  : W p l e rm_X11_pick s m args below meth c H locs 0 0 (MQ below (gQ X τ (some (.int r)) G') args s 0 0 (gFree X)) (F0 m 61 ls []) := by
  unfold k_X11_pick_61 at hok
  refine lv_aload_n fx.1 fx.2.1 dX11_pick_61 rfl (lv_at hl 0 rfl) ?_
  refine g_getr fx hw h0 lf_RX11_13 rfl dX11_pick_62 hok (fun a12 h_a12 hok => ?_)
  refine lv_iconst (v := 1) fx.1 fx.2.1 dX11_pick_65 (by decide) ?_
  refine lv_dup2_11 fx.1 fx.2.1 dX11_pick_66 rfl rfl ?_
  refine g_iald fx hw h_a12 dX11_pick_67 hok (fun hok => ?_)
  refine lv_iconst (v := 1) fx.1 fx.2.1 dX11_pick_68 (by decide) ?_
  refine lv_isub fx.1 fx.2.1 dX11_pick_69 ?_
  refine g_iast fx hw h_a12 dX11_pick_70 hok (fun G13 H locs hw hok => ?_)
  refine lv_aload_n fx.1 fx.2.1 dX11_pick_71 rfl (lv_at hl 0 rfl) ?_
  obtain ⟨v14, hf, hok⟩ := gOk_bind hok
  refine g_callV0 (κ := 11) fx hw (c_X11_ropes l X τ x0 G13 h0 hf) lv_RX11_73 ⟨rfl, rfl⟩ rfl rfl h0 rfl hl.1 rfl ⟨Nat.le_of_ble_eq_true rfl, Nat.le_of_ble_eq_true rfl⟩ (Nat.le_of_ble_eq_true rfl) ⟨Nat.le_of_ble_eq_true rfl, Nat.le_of_ble_eq_true rfl⟩ dX11_pick_72 (fun H locs hw => ?_)
  cases gOk_some hok
  exact g_iret fx hw hr dX11_pick_75
set_option maxHeartbeats 4000000 in
set_option maxRecDepth 100000 in
theorem c_X11_pick (l : Launch) (X : gX) (τ : gτ) (n : Nat) (x0 : Nat) (x1 : Int32) (G : gG) (h0 : gK τ x0 11) {r : Int32} {G' : gG} (h : f_X11_pick τ n x0 x1 G = some (r, G')) : gM l X τ yX11_pick cX11_pick 3 (some .int) rm_X11_pick [.ref x0, .int x1] G (some (.int r)) G' := by
  refine g_body (by decide +kernel) (Nat.le_of_ble_eq_true rfl) ?_
  intro p e s m args below meth c ls fx hr hw hl
  have fx : gFx X p s m args meth c cX11_pick 3 RX11 := fx
  have hl : lv_has ls 3 [(0, .ref x0), (1, .int x1)] := hl
  have hok : gOk (f_X11_pick τ n x0 x1 G) (fun q => q = (r, G')) := ⟨_, h, rfl⟩
  unfold f_X11_pick at hok
  show W p l e rm_X11_pick s m args below meth c s.heap [] 0 0 (MQ below (gQ X τ (some (.int r)) G') args s 0 0 (gFree X)) _
  refine lv_aload_n fx.1 fx.2.1 dX11_pick_0 rfl (lv_at hl 0 rfl) ?_
  refine lv_iconst (v := 0) fx.1 fx.2.1 dX11_pick_1 (by decide) ?_
  refine g_puti fx hw h0 lp_RX11_3 rfl rfl dX11_pick_2 hok (fun G1 H locs hw hok => ?_)
  refine lv_aload_n fx.1 fx.2.1 dX11_pick_5 rfl (lv_at hl 0 rfl) ?_
  refine lv_aload_n fx.1 fx.2.1 dX11_pick_6 rfl (lv_at hl 0 rfl) ?_
  refine lv_iload_n fx.1 fx.2.1 dX11_pick_7 rfl (lv_at hl 1 rfl) ?_
  obtain ⟨v2, hf, hok⟩ := gOk_bind hok
  refine g_callV0 (κ := 11) fx hw (c_X11_noRope l X τ x0 x1 G1 h0 hf) lv_RX11_321 ⟨rfl, rfl⟩ rfl rfl h0 rfl hl.1 rfl ⟨Nat.le_of_ble_eq_true rfl, Nat.le_of_ble_eq_true rfl⟩ (Nat.le_of_ble_eq_true rfl) ⟨Nat.le_of_ble_eq_true rfl, Nat.le_of_ble_eq_true rfl⟩ dX11_pick_8 (fun H locs hw => ?_)
  refine lv_iconst (v := 1) fx.1 fx.2.1 dX11_pick_11 (by decide) ?_
  obtain ⟨v3, G4, hf, hok⟩ := gOk_bind2 hok
  refine g_callV0 (κ := 11) fx hw (c_X11_throwsIf l X τ x0 v2 (1 : Int32) G1 h0 hf) lv_RX11_263 ⟨rfl, rfl⟩ rfl rfl h0 rfl hl.1 rfl ⟨Nat.le_of_ble_eq_true rfl, Nat.le_of_ble_eq_true rfl⟩ (Nat.le_of_ble_eq_true rfl) ⟨Nat.le_of_ble_eq_true rfl, Nat.le_of_ble_eq_true rfl⟩ dX11_pick_12 (fun H locs hw => ?_)
  refine g_if_eq (tgt := 20) fx dX11_pick_15 (by decide) hok (fun hok => ?_) (fun hok => ?_)
  · refine lv_aload_n fx.1 fx.2.1 dX11_pick_20 rfl (lv_at hl 0 rfl) ?_
    obtain ⟨G5, hf, hok⟩ := gOk_bind hok
    refine g_callV0 (κ := 11) fx hw (c_X11_remembers l X τ n x0 G4 h0 hf) lv_RX11_346 ⟨rfl, rfl⟩ rfl rfl h0 rfl hl.1 rfl ⟨Nat.le_of_ble_eq_true rfl, Nat.le_of_ble_eq_true rfl⟩ (Nat.le_of_ble_eq_true rfl) ⟨Nat.le_of_ble_eq_true rfl, Nat.le_of_ble_eq_true rfl⟩ dX11_pick_21 (fun H locs hw => ?_)
    refine lv_iload_n fx.1 fx.2.1 dX11_pick_24 rfl (lv_at hl 1 rfl) ?_
    refine lv_iconst (v := 0) fx.1 fx.2.1 dX11_pick_25 (by decide) ?_
    obtain ⟨v6, hf, hok⟩ := gOk_bind hok
    refine g_callS0 fx hw (c_X11_at l X τ x1 (0 : Int32) G5  hf) ls_RX11_59 ⟨rfl, rfl⟩ rfl hl.1 rfl ⟨Nat.le_of_ble_eq_true rfl, Nat.le_of_ble_eq_true rfl⟩ (Nat.le_of_ble_eq_true rfl) ⟨Nat.le_of_ble_eq_true rfl, Nat.le_of_ble_eq_true rfl⟩ dX11_pick_26 (fun H locs hw => ?_)
    refine lv_istore_n (lv' := [(2, .int v6), (0, .ref x0), (1, .int x1)]) fx.1 fx.2.1 dX11_pick_29 rfl hl (by decide) rfl (fun ls hl => ?_)
    refine w_l_X11_pick_30 fx n x0 h0 ?_ n v6 G5 _ _ _  hw (lv_sub hl [1, 0] rfl) (gOk_bindK hok)
    intro G11 H locs ls hw hl hok
    have hok : gOk (ρ := Int32 × gG) (k_X11_pick_61 τ n x0  G11) _ := hok
    exact w_X11_pick_61 fx n x0  h0  hr hw (lv_sub hl [0] rfl) hok
  · refine lv_iconst (v := 0) fx.1 fx.2.1 dX11_pick_18 (by decide) ?_
    cases gOk_some hok
    exact g_iret fx hw hr dX11_pick_19
theorem dX11_breaks_0 : decode cX11_breaks 0 = .ok (.sipush 299, 3) := by decide +kernel
theorem dX11_breaks_3 : decode cX11_breaks 3 = .ok (.istore_n 2, 1) := by decide +kernel
theorem dX11_breaks_4 : decode cX11_breaks 4 = .ok (.iload_n 2, 1) := by decide +kernel
theorem dX11_breaks_5 : decode cX11_breaks 5 = .ok (.iconst 5, 1) := by decide +kernel
theorem dX11_breaks_6 : decode cX11_breaks 6 = .ok (.if_icmp .lt 31, 3) := by decide +kernel
theorem dX11_breaks_9 : decode cX11_breaks 9 = .ok (.aload_n 0, 1) := by decide +kernel
theorem dX11_breaks_10 : decode cX11_breaks 10 = .ok (.getfield 13, 3) := by decide +kernel
theorem dX11_breaks_13 : decode cX11_breaks 13 = .ok (.sipush 167, 3) := by decide +kernel
theorem dX11_breaks_16 : decode cX11_breaks 16 = .ok (.iload_n 2, 1) := by decide +kernel
theorem dX11_breaks_17 : decode cX11_breaks 17 = .ok (.iadd, 1) := by decide +kernel
theorem dX11_breaks_18 : decode cX11_breaks 18 = .ok (.aload_n 0, 1) := by decide +kernel
theorem dX11_breaks_19 : decode cX11_breaks 19 = .ok (.getfield 13, 3) := by decide +kernel
theorem dX11_breaks_22 : decode cX11_breaks 22 = .ok (.sipush 167, 3) := by decide +kernel
theorem dX11_breaks_25 : decode cX11_breaks 25 = .ok (.iload_n 2, 1) := by decide +kernel
theorem dX11_breaks_26 : decode cX11_breaks 26 = .ok (.iadd, 1) := by decide +kernel
theorem dX11_breaks_27 : decode cX11_breaks 27 = .ok (.iconst 5, 1) := by decide +kernel
theorem dX11_breaks_28 : decode cX11_breaks 28 = .ok (.isub, 1) := by decide +kernel
theorem dX11_breaks_29 : decode cX11_breaks 29 = .ok (.iaload, 1) := by decide +kernel
theorem dX11_breaks_30 : decode cX11_breaks 30 = .ok (.iastore, 1) := by decide +kernel
theorem dX11_breaks_31 : decode cX11_breaks 31 = .ok (.iinc 2 (-1), 3) := by decide +kernel
theorem dX11_breaks_34 : decode cX11_breaks 34 = .ok (.goto (-30), 3) := by decide +kernel
theorem dX11_breaks_37 : decode cX11_breaks 37 = .ok (.aload_n 0, 1) := by decide +kernel
theorem dX11_breaks_38 : decode cX11_breaks 38 = .ok (.getfield 13, 3) := by decide +kernel
theorem dX11_breaks_41 : decode cX11_breaks 41 = .ok (.sipush 167, 3) := by decide +kernel
theorem dX11_breaks_44 : decode cX11_breaks 44 = .ok (.aload_n 0, 1) := by decide +kernel
theorem dX11_breaks_45 : decode cX11_breaks 45 = .ok (.getfield 13, 3) := by decide +kernel
theorem dX11_breaks_48 : decode cX11_breaks 48 = .ok (.iconst 5, 1) := by decide +kernel
theorem dX11_breaks_49 : decode cX11_breaks 49 = .ok (.iaload, 1) := by decide +kernel
theorem dX11_breaks_50 : decode cX11_breaks 50 = .ok (.iastore, 1) := by decide +kernel
theorem dX11_breaks_51 : decode cX11_breaks 51 = .ok (.iconst 0, 1) := by decide +kernel
theorem dX11_breaks_52 : decode cX11_breaks 52 = .ok (.istore_n 2, 1) := by decide +kernel
theorem dX11_breaks_53 : decode cX11_breaks 53 = .ok (.iload_n 2, 1) := by decide +kernel
theorem dX11_breaks_54 : decode cX11_breaks 54 = .ok (.iconst 3, 1) := by decide +kernel
theorem dX11_breaks_55 : decode cX11_breaks 55 = .ok (.if_icmp .ge 25, 3) := by decide +kernel
theorem dX11_breaks_58 : decode cX11_breaks 58 = .ok (.aload_n 0, 1) := by decide +kernel
theorem dX11_breaks_59 : decode cX11_breaks 59 = .ok (.getfield 13, 3) := by decide +kernel
theorem dX11_breaks_62 : decode cX11_breaks 62 = .ok (.sipush 168, 3) := by decide +kernel
theorem dX11_breaks_65 : decode cX11_breaks 65 = .ok (.iload_n 2, 1) := by decide +kernel
theorem dX11_breaks_66 : decode cX11_breaks 66 = .ok (.iadd, 1) := by decide +kernel
theorem dX11_breaks_67 : decode cX11_breaks 67 = .ok (.aload_n 0, 1) := by decide +kernel
theorem dX11_breaks_68 : decode cX11_breaks 68 = .ok (.iload_n 1, 1) := by decide +kernel
theorem dX11_breaks_69 : decode cX11_breaks 69 = .ok (.iload_n 2, 1) := by decide +kernel
theorem dX11_breaks_70 : decode cX11_breaks 70 = .ok (.invokevirtual 62, 3) := by decide +kernel
theorem dX11_breaks_73 : decode cX11_breaks 73 = .ok (.iastore, 1) := by decide +kernel
theorem dX11_breaks_74 : decode cX11_breaks 74 = .ok (.iinc 2 1, 3) := by decide +kernel
theorem dX11_breaks_77 : decode cX11_breaks 77 = .ok (.goto (-24), 3) := by decide +kernel
theorem dX11_breaks_80 : decode cX11_breaks 80 = .ok (.aload_n 0, 1) := by decide +kernel
theorem dX11_breaks_81 : decode cX11_breaks 81 = .ok (.getfield 13, 3) := by decide +kernel
theorem dX11_breaks_84 : decode cX11_breaks 84 = .ok (.sipush 171, 3) := by decide +kernel
theorem dX11_breaks_87 : decode cX11_breaks 87 = .ok (.aload_n 0, 1) := by decide +kernel
theorem dX11_breaks_88 : decode cX11_breaks 88 = .ok (.iload_n 1, 1) := by decide +kernel
theorem dX11_breaks_89 : decode cX11_breaks 89 = .ok (.bipush 9, 2) := by decide +kernel
theorem dX11_breaks_91 : decode cX11_breaks 91 = .ok (.invokevirtual 62, 3) := by decide +kernel
theorem dX11_breaks_94 : decode cX11_breaks 94 = .ok (.iastore, 1) := by decide +kernel
theorem dX11_breaks_95 : decode cX11_breaks 95 = .ok (.aload_n 0, 1) := by decide +kernel
theorem dX11_breaks_96 : decode cX11_breaks 96 = .ok (.getfield 13, 3) := by decide +kernel
theorem dX11_breaks_99 : decode cX11_breaks 99 = .ok (.bipush 11, 2) := by decide +kernel
theorem dX11_breaks_101 : decode cX11_breaks 101 = .ok (.bipush 60, 2) := by decide +kernel
theorem dX11_breaks_103 : decode cX11_breaks 103 = .ok (.aload_n 0, 1) := by decide +kernel
theorem dX11_breaks_104 : decode cX11_breaks 104 = .ok (.getfield 13, 3) := by decide +kernel
theorem dX11_breaks_107 : decode cX11_breaks 107 = .ok (.bipush 11, 2) := by decide +kernel
theorem dX11_breaks_109 : decode cX11_breaks 109 = .ok (.iaload, 1) := by decide +kernel
theorem dX11_breaks_110 : decode cX11_breaks 110 = .ok (.iconst 1, 1) := by decide +kernel
theorem dX11_breaks_111 : decode cX11_breaks 111 = .ok (.iadd, 1) := by decide +kernel
theorem dX11_breaks_112 : decode cX11_breaks 112 = .ok (.invokestatic 135, 3) := by decide +kernel
theorem dX11_breaks_115 : decode cX11_breaks 115 = .ok (.iastore, 1) := by decide +kernel
theorem dX11_breaks_116 : decode cX11_breaks 116 = .ok (.aload_n 0, 1) := by decide +kernel
theorem dX11_breaks_117 : decode cX11_breaks 117 = .ok (.getfield 13, 3) := by decide +kernel
theorem dX11_breaks_120 : decode cX11_breaks 120 = .ok (.bipush 8, 2) := by decide +kernel
theorem dX11_breaks_122 : decode cX11_breaks 122 = .ok (.dup2, 1) := by decide +kernel
theorem dX11_breaks_123 : decode cX11_breaks 123 = .ok (.iaload, 1) := by decide +kernel
theorem dX11_breaks_124 : decode cX11_breaks 124 = .ok (.aload_n 0, 1) := by decide +kernel
theorem dX11_breaks_125 : decode cX11_breaks 125 = .ok (.iload_n 1, 1) := by decide +kernel
theorem dX11_breaks_126 : decode cX11_breaks 126 = .ok (.bipush 9, 2) := by decide +kernel
theorem dX11_breaks_128 : decode cX11_breaks 128 = .ok (.invokevirtual 62, 3) := by decide +kernel
theorem dX11_breaks_131 : decode cX11_breaks 131 = .ok (.iadd, 1) := by decide +kernel
theorem dX11_breaks_132 : decode cX11_breaks 132 = .ok (.iastore, 1) := by decide +kernel
theorem dX11_breaks_133 : decode cX11_breaks 133 = .ok (.aload_n 0, 1) := by decide +kernel
theorem dX11_breaks_134 : decode cX11_breaks 134 = .ok (.getfield 13, 3) := by decide +kernel
theorem dX11_breaks_137 : decode cX11_breaks 137 = .ok (.bipush 9, 2) := by decide +kernel
theorem dX11_breaks_139 : decode cX11_breaks 139 = .ok (.dup2, 1) := by decide +kernel
theorem dX11_breaks_140 : decode cX11_breaks 140 = .ok (.iaload, 1) := by decide +kernel
theorem dX11_breaks_141 : decode cX11_breaks 141 = .ok (.iconst 1, 1) := by decide +kernel
theorem dX11_breaks_142 : decode cX11_breaks 142 = .ok (.iadd, 1) := by decide +kernel
theorem dX11_breaks_143 : decode cX11_breaks 143 = .ok (.iastore, 1) := by decide +kernel
theorem dX11_breaks_144 : decode cX11_breaks 144 = .ok (.aload_n 0, 1) := by decide +kernel
theorem dX11_breaks_145 : decode cX11_breaks 145 = .ok (.getfield 13, 3) := by decide +kernel
theorem dX11_breaks_148 : decode cX11_breaks 148 = .ok (.iload_n 1, 1) := by decide +kernel
theorem dX11_breaks_149 : decode cX11_breaks 149 = .ok (.bipush 8, 2) := by decide +kernel
theorem dX11_breaks_151 : decode cX11_breaks 151 = .ok (.invokestatic 59, 3) := by decide +kernel
theorem dX11_breaks_154 : decode cX11_breaks 154 = .ok (.iconst 1, 1) := by decide +kernel
theorem dX11_breaks_155 : decode cX11_breaks 155 = .ok (.iastore, 1) := by decide +kernel
theorem dX11_breaks_156 : decode cX11_breaks 156 = .ok (.aload_n 0, 1) := by decide +kernel
theorem dX11_breaks_157 : decode cX11_breaks 157 = .ok (.getfield 13, 3) := by decide +kernel
theorem dX11_breaks_160 : decode cX11_breaks 160 = .ok (.iload_n 1, 1) := by decide +kernel
theorem dX11_breaks_161 : decode cX11_breaks 161 = .ok (.bipush 9, 2) := by decide +kernel
theorem dX11_breaks_163 : decode cX11_breaks 163 = .ok (.invokestatic 59, 3) := by decide +kernel
theorem dX11_breaks_166 : decode cX11_breaks 166 = .ok (.iconst 0, 1) := by decide +kernel
theorem dX11_breaks_167 : decode cX11_breaks 167 = .ok (.iastore, 1) := by decide +kernel
theorem dX11_breaks_168 : decode cX11_breaks 168 = .ok (.return_, 1) := by decide +kernel
def rm_X11_breaks : Room := { frames := 2, cells := 0, slots := 0, locals := 43 }
def b_X11_breaks_4 (τ : gτ) (n : Nat) (x0 : Nat) (x1 : Int32) (x2 : Int32) (G : gG) : Option ((Int32 × gG) ⊕ ((gG))) :=
  if x2 < (5 : Int32) then (some (.inr G))
  else ((gr G 11 1 x0).bind fun a1 =>
  (gr G 11 1 x0).bind fun a2 =>
  gchk (gIn (((167 : Int32) + x2) - (5 : Int32)) (gn τ a2)) <|
  gchk (gIn ((167 : Int32) + x2) (gn τ a1)) <| gLet (gse G a1 (Int32.toNatClampNeg ((167 : Int32) + x2)) (ge G a2 (Int32.toNatClampNeg (((167 : Int32) + x2) - (5 : Int32))))) fun G3 =>
  gLet (x2 + (-1)) fun v4 =>
  some (.inl (v4, G3)))
def l_X11_breaks_4 (τ : gτ) (n : Nat) (x0 : Nat) (x1 : Int32) (x2 : Int32) (G : gG) : Option ((gG)) :=
  gIter (fun (q : Int32 × gG) => b_X11_breaks_4 τ n x0 x1 q.1 q.2) n (x2, G)
def b_X11_breaks_53 (τ : gτ) (n : Nat) (x0 : Nat) (x1 : Int32) (x2 : Int32) (G : gG) : Option ((Int32 × gG) ⊕ ((gG))) :=
  if (3 : Int32) ≤ x2 then (some (.inr G))
  else ((gr G 11 1 x0).bind fun a9 =>
  (f_X11_of τ x0 x1 x2 G).bind fun v10 =>
  gchk (gIn ((168 : Int32) + x2) (gn τ a9)) <| gLet (gse G a9 (Int32.toNatClampNeg ((168 : Int32) + x2)) v10) fun G11 =>
  gLet (x2 + 1) fun v12 =>
  some (.inl (v12, G11)))
def l_X11_breaks_53 (τ : gτ) (n : Nat) (x0 : Nat) (x1 : Int32) (x2 : Int32) (G : gG) : Option ((gG)) :=
  gIter (fun (q : Int32 × gG) => b_X11_breaks_53 τ n x0 x1 q.1 q.2) n (x2, G)
def k_X11_breaks_80 (τ : gτ) (n : Nat) (x0 : Nat) (x1 : Int32)  (G : gG) : Option (gG) :=
  (gr G 11 1 x0).bind fun a14 =>
  (f_X11_of τ x0 x1 (9 : Int32) G).bind fun v15 =>
  gchk (gIn (171 : Int32) (gn τ a14)) <| gLet (gse G a14 (Int32.toNatClampNeg (171 : Int32)) v15) fun G16 =>
  (gr G16 11 1 x0).bind fun a17 =>
  (gr G16 11 1 x0).bind fun a18 =>
  gchk (gIn (11 : Int32) (gn τ a18)) <|
  gchk (gIn (11 : Int32) (gn τ a17)) <| gLet (gse G16 a17 (Int32.toNatClampNeg (11 : Int32)) (gmin (60 : Int32) ((ge G16 a18 (Int32.toNatClampNeg (11 : Int32))) + (1 : Int32)))) fun G19 =>
  (gr G19 11 1 x0).bind fun a20 =>
  gchk (gIn (8 : Int32) (gn τ a20)) <|
  (f_X11_of τ x0 x1 (9 : Int32) G19).bind fun v21 =>
  gchk (gIn (8 : Int32) (gn τ a20)) <| gLet (gse G19 a20 (Int32.toNatClampNeg (8 : Int32)) ((ge G19 a20 (Int32.toNatClampNeg (8 : Int32))) + v21)) fun G22 =>
  (gr G22 11 1 x0).bind fun a23 =>
  gchk (gIn (9 : Int32) (gn τ a23)) <|
  gchk (gIn (9 : Int32) (gn τ a23)) <| gLet (gse G22 a23 (Int32.toNatClampNeg (9 : Int32)) ((ge G22 a23 (Int32.toNatClampNeg (9 : Int32))) + (1 : Int32))) fun G24 =>
  (gr G24 11 1 x0).bind fun a25 =>
  (f_X11_at x1 (8 : Int32)).bind fun v26 =>
  gchk (gIn v26 (gn τ a25)) <| gLet (gse G24 a25 (Int32.toNatClampNeg v26) (1 : Int32)) fun G27 =>
  (gr G27 11 1 x0).bind fun a28 =>
  (f_X11_at x1 (9 : Int32)).bind fun v29 =>
  gchk (gIn v29 (gn τ a28)) <| gLet (gse G27 a28 (Int32.toNatClampNeg v29) (0 : Int32)) fun G30 =>
  some G30
def k_X11_breaks_37 (τ : gτ) (n : Nat) (x0 : Nat) (x1 : Int32)  (G : gG) : Option (gG) :=
  (gr G 11 1 x0).bind fun a6 =>
  (gr G 11 1 x0).bind fun a7 =>
  gchk (gIn (5 : Int32) (gn τ a7)) <|
  gchk (gIn (167 : Int32) (gn τ a6)) <| gLet (gse G a6 (Int32.toNatClampNeg (167 : Int32)) (ge G a7 (Int32.toNatClampNeg (5 : Int32)))) fun G8 =>
  (l_X11_breaks_53 τ n x0 x1 (0 : Int32) G8).bind fun q => gLet q fun G13 => 
  k_X11_breaks_80 τ n x0 x1  G13
def f_X11_breaks (τ : gτ) (n : Nat) (x0 : Nat) (x1 : Int32) (G : gG) : Option (gG) :=
  (l_X11_breaks_4 τ n x0 x1 (299 : Int32) G).bind fun q => gLet q fun G5 => 
  k_X11_breaks_37 τ n x0 x1  G5
set_option maxHeartbeats 4000000 in
set_option maxRecDepth 100000 in
theorem w_b_X11_breaks_4 {X : gX} {τ : gτ} {p : Program} {l : Launch} {e : Env} {s : State} {m : MethodId} {args : Array Value} {below : List Frame} {meth : Method} {c : Code} (fx : gFx X p s m args meth c cX11_breaks 3 RX11) (n : Nat) (x0 : Nat) (x1 : Int32) (x2 : Int32) (h0 : gK τ x0 11) {Q : State → Prop} {K : ((Int32 × gG) ⊕ ((gG))) → Prop} {G : gG} {H : Heap} {locs : List Loc} {ls : Array Slot} (hw : gHw X τ G H locs) (hl : lv_has ls 3 [(0, .ref x0), (1, .int x1), (2, .int x2)]) (hok : gOk (b_X11_breaks_4 τ n x0 x1 x2 G) K) (hc : ∀ (y2 : Int32) (G : gG) (H : Heap) (locs : List Loc) (ls : Array Slot), gHw X τ G H locs → lv_has ls 3 [(0, .ref x0), (1, .int x1), (2, .int y2)] → K (.inl (y2, G)) → W p l e rm_X11_breaks s m args below meth c H locs 0 0 Q (F0 m 4 ls [])) (hx0 : ∀ (G : gG) (H : Heap) (locs : List Loc) (ls : Array Slot), gHw X τ G H locs → lv_has ls 3 [(0, .ref x0), (1, .int x1)] → K (.inr G) → W p l e rm_X11_breaks s m args below meth c H locs 0 0 Q (F0 m 37 ls [])) : W p l e rm_X11_breaks s m args below meth c H locs 0 0 Q (F0 m 4 ls []) := by
  unfold b_X11_breaks_4 at hok
  refine lv_iload_n fx.1 fx.2.1 dX11_breaks_4 rfl (lv_at hl 2 rfl) ?_
  refine lv_iconst (v := 5) fx.1 fx.2.1 dX11_breaks_5 (by decide) ?_
  refine g_icmp_lt (tgt := 37) fx dX11_breaks_6 (by decide) hok (fun hok => ?_) (fun hok => ?_)
  · exact hx0  G _ _ _  hw (lv_sub hl [0, 1] rfl) (gOk_some hok)
  · refine lv_aload_n fx.1 fx.2.1 dX11_breaks_9 rfl (lv_at hl 0 rfl) ?_
    refine g_getr fx hw h0 lf_RX11_13 rfl dX11_breaks_10 hok (fun a1 h_a1 hok => ?_)
    refine lv_sipush (v := 167) fx.1 fx.2.1 dX11_breaks_13 (by decide) ?_
    refine lv_iload_n fx.1 fx.2.1 dX11_breaks_16 rfl (lv_at hl 2 rfl) ?_
    refine lv_iadd fx.1 fx.2.1 dX11_breaks_17 ?_
    refine lv_aload_n fx.1 fx.2.1 dX11_breaks_18 rfl (lv_at hl 0 rfl) ?_
    refine g_getr fx hw h0 lf_RX11_13 rfl dX11_breaks_19 hok (fun a2 h_a2 hok => ?_)
    refine lv_sipush (v := 167) fx.1 fx.2.1 dX11_breaks_22 (by decide) ?_
    refine lv_iload_n fx.1 fx.2.1 dX11_breaks_25 rfl (lv_at hl 2 rfl) ?_
    refine lv_iadd fx.1 fx.2.1 dX11_breaks_26 ?_
    refine lv_iconst (v := 5) fx.1 fx.2.1 dX11_breaks_27 (by decide) ?_
    refine lv_isub fx.1 fx.2.1 dX11_breaks_28 ?_
    refine g_iald fx hw h_a2 dX11_breaks_29 hok (fun hok => ?_)
    refine g_iast fx hw h_a1 dX11_breaks_30 hok (fun G3 H locs hw hok => ?_)
    obtain ⟨v4, e_v4, hok⟩ := gOk_let hok
    refine lv_iinc (v := v4) (lv' := [(2, .int v4), (0, .ref x0), (1, .int x1)]) fx.1 fx.2.1 dX11_breaks_31 hl (k := 2) rfl (by rw [e_v4]; rfl) (by decide) rfl (fun ls hl => ?_)
    refine lv_goto (tgt := 4) fx.1 fx.2.1 dX11_breaks_34 (by decide) ?_
    exact hc v4 G3 _ _ _  hw (lv_sub hl [1, 2, 0] rfl) (gOk_some hok)
theorem w_l_X11_breaks_4 {X : gX} {τ : gτ} {p : Program} {l : Launch} {e : Env} {s : State} {m : MethodId} {args : Array Value} {below : List Frame} {meth : Method} {c : Code} (fx : gFx X p s m args meth c cX11_breaks 3 RX11) (n : Nat) (x0 : Nat) (x1 : Int32) (h0 : gK τ x0 11) {Q : State → Prop} {K : ((gG)) → Prop} (hx0 : ∀ (G : gG) (H : Heap) (locs : List Loc) (ls : Array Slot), gHw X τ G H locs → lv_has ls 3 [(0, .ref x0), (1, .int x1)] → K G → W p l e rm_X11_breaks s m args below meth c H locs 0 0 Q (F0 m 37 ls [])) : ∀ (k : Nat) (x2 : Int32) (G : gG) (H : Heap) (locs : List Loc) (ls : Array Slot), gHw X τ G H locs → lv_has ls 3 [(0, .ref x0), (1, .int x1), (2, .int x2)] → gOk (gIter (fun (q : Int32 × gG) => b_X11_breaks_4 τ n x0 x1 q.1 q.2) k (x2, G)) K → W p l e rm_X11_breaks s m args below meth c H locs 0 0 Q (F0 m 4 ls []) := by
  intro k
  induction k with
  | zero =>
    intro x2 G H locs ls hw hl hok
    exact gOk_iter0 hok
  | succ k hc =>
    intro x2 G H locs ls hw hl hok
    exact w_b_X11_breaks_4 fx n x0 x1 x2 h0 hw hl (gOk_iter hok) hc hx0
set_option maxHeartbeats 4000000 in
set_option maxRecDepth 100000 in
theorem w_b_X11_breaks_53 {X : gX} {τ : gτ} {p : Program} {l : Launch} {e : Env} {s : State} {m : MethodId} {args : Array Value} {below : List Frame} {meth : Method} {c : Code} (fx : gFx X p s m args meth c cX11_breaks 3 RX11) (n : Nat) (x0 : Nat) (x1 : Int32) (x2 : Int32) (h0 : gK τ x0 11) {Q : State → Prop} {K : ((Int32 × gG) ⊕ ((gG))) → Prop} {G : gG} {H : Heap} {locs : List Loc} {ls : Array Slot} (hw : gHw X τ G H locs) (hl : lv_has ls 3 [(0, .ref x0), (1, .int x1), (2, .int x2)]) (hok : gOk (b_X11_breaks_53 τ n x0 x1 x2 G) K) (hc : ∀ (y2 : Int32) (G : gG) (H : Heap) (locs : List Loc) (ls : Array Slot), gHw X τ G H locs → lv_has ls 3 [(0, .ref x0), (1, .int x1), (2, .int y2)] → K (.inl (y2, G)) → W p l e rm_X11_breaks s m args below meth c H locs 0 0 Q (F0 m 53 ls [])) (hx0 : ∀ (G : gG) (H : Heap) (locs : List Loc) (ls : Array Slot), gHw X τ G H locs → lv_has ls 3 [(0, .ref x0), (1, .int x1)] → K (.inr G) → W p l e rm_X11_breaks s m args below meth c H locs 0 0 Q (F0 m 80 ls [])) : W p l e rm_X11_breaks s m args below meth c H locs 0 0 Q (F0 m 53 ls []) := by
  unfold b_X11_breaks_53 at hok
  refine lv_iload_n fx.1 fx.2.1 dX11_breaks_53 rfl (lv_at hl 2 rfl) ?_
  refine lv_iconst (v := 3) fx.1 fx.2.1 dX11_breaks_54 (by decide) ?_
  refine g_icmp_ge (tgt := 80) fx dX11_breaks_55 (by decide) hok (fun hok => ?_) (fun hok => ?_)
  · exact hx0  G _ _ _  hw (lv_sub hl [0, 1] rfl) (gOk_some hok)
  · refine lv_aload_n fx.1 fx.2.1 dX11_breaks_58 rfl (lv_at hl 0 rfl) ?_
    refine g_getr fx hw h0 lf_RX11_13 rfl dX11_breaks_59 hok (fun a9 h_a9 hok => ?_)
    refine lv_sipush (v := 168) fx.1 fx.2.1 dX11_breaks_62 (by decide) ?_
    refine lv_iload_n fx.1 fx.2.1 dX11_breaks_65 rfl (lv_at hl 2 rfl) ?_
    refine lv_iadd fx.1 fx.2.1 dX11_breaks_66 ?_
    refine lv_aload_n fx.1 fx.2.1 dX11_breaks_67 rfl (lv_at hl 0 rfl) ?_
    refine lv_iload_n fx.1 fx.2.1 dX11_breaks_68 rfl (lv_at hl 1 rfl) ?_
    refine lv_iload_n fx.1 fx.2.1 dX11_breaks_69 rfl (lv_at hl 2 rfl) ?_
    obtain ⟨v10, hf, hok⟩ := gOk_bind hok
    refine g_callV0 (κ := 11) fx hw (c_X11_of l X τ x0 x1 x2 G h0 hf) lv_RX11_62 ⟨rfl, rfl⟩ rfl rfl h0 rfl hl.1 rfl ⟨Nat.le_of_ble_eq_true rfl, Nat.le_of_ble_eq_true rfl⟩ (Nat.le_of_ble_eq_true rfl) ⟨Nat.le_of_ble_eq_true rfl, Nat.le_of_ble_eq_true rfl⟩ dX11_breaks_70 (fun H locs hw => ?_)
    refine g_iast fx hw h_a9 dX11_breaks_73 hok (fun G11 H locs hw hok => ?_)
    obtain ⟨v12, e_v12, hok⟩ := gOk_let hok
    refine lv_iinc (v := v12) (lv' := [(2, .int v12), (0, .ref x0), (1, .int x1)]) fx.1 fx.2.1 dX11_breaks_74 hl (k := 2) rfl (by rw [e_v12]; rfl) (by decide) rfl (fun ls hl => ?_)
    refine lv_goto (tgt := 53) fx.1 fx.2.1 dX11_breaks_77 (by decide) ?_
    exact hc v12 G11 _ _ _  hw (lv_sub hl [1, 2, 0] rfl) (gOk_some hok)
theorem w_l_X11_breaks_53 {X : gX} {τ : gτ} {p : Program} {l : Launch} {e : Env} {s : State} {m : MethodId} {args : Array Value} {below : List Frame} {meth : Method} {c : Code} (fx : gFx X p s m args meth c cX11_breaks 3 RX11) (n : Nat) (x0 : Nat) (x1 : Int32) (h0 : gK τ x0 11) {Q : State → Prop} {K : ((gG)) → Prop} (hx0 : ∀ (G : gG) (H : Heap) (locs : List Loc) (ls : Array Slot), gHw X τ G H locs → lv_has ls 3 [(0, .ref x0), (1, .int x1)] → K G → W p l e rm_X11_breaks s m args below meth c H locs 0 0 Q (F0 m 80 ls [])) : ∀ (k : Nat) (x2 : Int32) (G : gG) (H : Heap) (locs : List Loc) (ls : Array Slot), gHw X τ G H locs → lv_has ls 3 [(0, .ref x0), (1, .int x1), (2, .int x2)] → gOk (gIter (fun (q : Int32 × gG) => b_X11_breaks_53 τ n x0 x1 q.1 q.2) k (x2, G)) K → W p l e rm_X11_breaks s m args below meth c H locs 0 0 Q (F0 m 53 ls []) := by
  intro k
  induction k with
  | zero =>
    intro x2 G H locs ls hw hl hok
    exact gOk_iter0 hok
  | succ k hc =>
    intro x2 G H locs ls hw hl hok
    exact w_b_X11_breaks_53 fx n x0 x1 x2 h0 hw hl (gOk_iter hok) hc hx0
set_option maxHeartbeats 4000000 in
set_option maxRecDepth 100000 in
theorem w_X11_breaks_80 {X : gX} {τ : gτ} {p : Program} {l : Launch} {e : Env} {s : State} {m : MethodId} {args : Array Value} {below : List Frame} {meth : Method} {c : Code} (fx : gFx X p s m args meth c cX11_breaks 3 RX11) (n : Nat) (x0 : Nat) (x1 : Int32)  (h0 : gK τ x0 11)  (hr : meth.sig.returnType = none) {G' : gG} {G : gG} {H : Heap} {locs : List Loc} {ls : Array Slot} (hw : gHw X τ G H locs) (hl : lv_has ls 3 [(0, .ref x0), (1, .int x1)]) (hok : gOk (k_X11_breaks_80 τ n x0 x1  G) (fun q => q = G'))  : W p l e rm_X11_breaks s m args below meth c H locs 0 0 (MQ below (gQ X τ none G') args s 0 0 (gFree X)) (F0 m 80 ls []) := by
  unfold k_X11_breaks_80 at hok
  refine lv_aload_n fx.1 fx.2.1 dX11_breaks_80 rfl (lv_at hl 0 rfl) ?_
  refine g_getr fx hw h0 lf_RX11_13 rfl dX11_breaks_81 hok (fun a14 h_a14 hok => ?_)
  refine lv_sipush (v := 171) fx.1 fx.2.1 dX11_breaks_84 (by decide) ?_
  refine lv_aload_n fx.1 fx.2.1 dX11_breaks_87 rfl (lv_at hl 0 rfl) ?_
  refine lv_iload_n fx.1 fx.2.1 dX11_breaks_88 rfl (lv_at hl 1 rfl) ?_
  refine lv_bipush (v := 9) fx.1 fx.2.1 dX11_breaks_89 (by decide) ?_
  obtain ⟨v15, hf, hok⟩ := gOk_bind hok
  refine g_callV0 (κ := 11) fx hw (c_X11_of l X τ x0 x1 (9 : Int32) G h0 hf) lv_RX11_62 ⟨rfl, rfl⟩ rfl rfl h0 rfl hl.1 rfl ⟨Nat.le_of_ble_eq_true rfl, Nat.le_of_ble_eq_true rfl⟩ (Nat.le_of_ble_eq_true rfl) ⟨Nat.le_of_ble_eq_true rfl, Nat.le_of_ble_eq_true rfl⟩ dX11_breaks_91 (fun H locs hw => ?_)
  refine g_iast fx hw h_a14 dX11_breaks_94 hok (fun G16 H locs hw hok => ?_)
  refine lv_aload_n fx.1 fx.2.1 dX11_breaks_95 rfl (lv_at hl 0 rfl) ?_
  refine g_getr fx hw h0 lf_RX11_13 rfl dX11_breaks_96 hok (fun a17 h_a17 hok => ?_)
  refine lv_bipush (v := 11) fx.1 fx.2.1 dX11_breaks_99 (by decide) ?_
  refine lv_bipush (v := 60) fx.1 fx.2.1 dX11_breaks_101 (by decide) ?_
  refine lv_aload_n fx.1 fx.2.1 dX11_breaks_103 rfl (lv_at hl 0 rfl) ?_
  refine g_getr fx hw h0 lf_RX11_13 rfl dX11_breaks_104 hok (fun a18 h_a18 hok => ?_)
  refine lv_bipush (v := 11) fx.1 fx.2.1 dX11_breaks_107 (by decide) ?_
  refine g_iald fx hw h_a18 dX11_breaks_109 hok (fun hok => ?_)
  refine lv_iconst (v := 1) fx.1 fx.2.1 dX11_breaks_110 (by decide) ?_
  refine lv_iadd fx.1 fx.2.1 dX11_breaks_111 ?_
  refine g_mmin fx hl.1 lm_RX11_135 lmst_min lm_init lmco_min ⟨Nat.le_of_ble_eq_true rfl, Nat.le_of_ble_eq_true rfl, Nat.le_of_ble_eq_true rfl, Nat.le_of_ble_eq_true rfl⟩ dX11_breaks_112 ?_
  refine g_iast fx hw h_a17 dX11_breaks_115 hok (fun G19 H locs hw hok => ?_)
  refine lv_aload_n fx.1 fx.2.1 dX11_breaks_116 rfl (lv_at hl 0 rfl) ?_
  refine g_getr fx hw h0 lf_RX11_13 rfl dX11_breaks_117 hok (fun a20 h_a20 hok => ?_)
  refine lv_bipush (v := 8) fx.1 fx.2.1 dX11_breaks_120 (by decide) ?_
  refine lv_dup2_11 fx.1 fx.2.1 dX11_breaks_122 rfl rfl ?_
  refine g_iald fx hw h_a20 dX11_breaks_123 hok (fun hok => ?_)
  refine lv_aload_n fx.1 fx.2.1 dX11_breaks_124 rfl (lv_at hl 0 rfl) ?_
  refine lv_iload_n fx.1 fx.2.1 dX11_breaks_125 rfl (lv_at hl 1 rfl) ?_
  refine lv_bipush (v := 9) fx.1 fx.2.1 dX11_breaks_126 (by decide) ?_
  obtain ⟨v21, hf, hok⟩ := gOk_bind hok
  refine g_callV0 (κ := 11) fx hw (c_X11_of l X τ x0 x1 (9 : Int32) G19 h0 hf) lv_RX11_62 ⟨rfl, rfl⟩ rfl rfl h0 rfl hl.1 rfl ⟨Nat.le_of_ble_eq_true rfl, Nat.le_of_ble_eq_true rfl⟩ (Nat.le_of_ble_eq_true rfl) ⟨Nat.le_of_ble_eq_true rfl, Nat.le_of_ble_eq_true rfl⟩ dX11_breaks_128 (fun H locs hw => ?_)
  refine lv_iadd fx.1 fx.2.1 dX11_breaks_131 ?_
  refine g_iast fx hw h_a20 dX11_breaks_132 hok (fun G22 H locs hw hok => ?_)
  refine lv_aload_n fx.1 fx.2.1 dX11_breaks_133 rfl (lv_at hl 0 rfl) ?_
  refine g_getr fx hw h0 lf_RX11_13 rfl dX11_breaks_134 hok (fun a23 h_a23 hok => ?_)
  refine lv_bipush (v := 9) fx.1 fx.2.1 dX11_breaks_137 (by decide) ?_
  refine lv_dup2_11 fx.1 fx.2.1 dX11_breaks_139 rfl rfl ?_
  refine g_iald fx hw h_a23 dX11_breaks_140 hok (fun hok => ?_)
  refine lv_iconst (v := 1) fx.1 fx.2.1 dX11_breaks_141 (by decide) ?_
  refine lv_iadd fx.1 fx.2.1 dX11_breaks_142 ?_
  refine g_iast fx hw h_a23 dX11_breaks_143 hok (fun G24 H locs hw hok => ?_)
  refine lv_aload_n fx.1 fx.2.1 dX11_breaks_144 rfl (lv_at hl 0 rfl) ?_
  refine g_getr fx hw h0 lf_RX11_13 rfl dX11_breaks_145 hok (fun a25 h_a25 hok => ?_)
  refine lv_iload_n fx.1 fx.2.1 dX11_breaks_148 rfl (lv_at hl 1 rfl) ?_
  refine lv_bipush (v := 8) fx.1 fx.2.1 dX11_breaks_149 (by decide) ?_
  obtain ⟨v26, hf, hok⟩ := gOk_bind hok
  refine g_callS0 fx hw (c_X11_at l X τ x1 (8 : Int32) G24  hf) ls_RX11_59 ⟨rfl, rfl⟩ rfl hl.1 rfl ⟨Nat.le_of_ble_eq_true rfl, Nat.le_of_ble_eq_true rfl⟩ (Nat.le_of_ble_eq_true rfl) ⟨Nat.le_of_ble_eq_true rfl, Nat.le_of_ble_eq_true rfl⟩ dX11_breaks_151 (fun H locs hw => ?_)
  refine lv_iconst (v := 1) fx.1 fx.2.1 dX11_breaks_154 (by decide) ?_
  refine g_iast fx hw h_a25 dX11_breaks_155 hok (fun G27 H locs hw hok => ?_)
  refine lv_aload_n fx.1 fx.2.1 dX11_breaks_156 rfl (lv_at hl 0 rfl) ?_
  refine g_getr fx hw h0 lf_RX11_13 rfl dX11_breaks_157 hok (fun a28 h_a28 hok => ?_)
  refine lv_iload_n fx.1 fx.2.1 dX11_breaks_160 rfl (lv_at hl 1 rfl) ?_
  refine lv_bipush (v := 9) fx.1 fx.2.1 dX11_breaks_161 (by decide) ?_
  obtain ⟨v29, hf, hok⟩ := gOk_bind hok
  refine g_callS0 fx hw (c_X11_at l X τ x1 (9 : Int32) G27  hf) ls_RX11_59 ⟨rfl, rfl⟩ rfl hl.1 rfl ⟨Nat.le_of_ble_eq_true rfl, Nat.le_of_ble_eq_true rfl⟩ (Nat.le_of_ble_eq_true rfl) ⟨Nat.le_of_ble_eq_true rfl, Nat.le_of_ble_eq_true rfl⟩ dX11_breaks_163 (fun H locs hw => ?_)
  refine lv_iconst (v := 0) fx.1 fx.2.1 dX11_breaks_166 (by decide) ?_
  refine g_iast fx hw h_a28 dX11_breaks_167 hok (fun G30 H locs hw hok => ?_)
  cases gOk_some hok
  exact g_vret fx hw hr dX11_breaks_168
set_option maxHeartbeats 4000000 in
set_option maxRecDepth 100000 in
theorem w_X11_breaks_37 {X : gX} {τ : gτ} {p : Program} {l : Launch} {e : Env} {s : State} {m : MethodId} {args : Array Value} {below : List Frame} {meth : Method} {c : Code} (fx : gFx X p s m args meth c cX11_breaks 3 RX11) (n : Nat) (x0 : Nat) (x1 : Int32)  (h0 : gK τ x0 11)  (hr : meth.sig.returnType = none) {G' : gG} {G : gG} {H : Heap} {locs : List Loc} {ls : Array Slot} (hw : gHw X τ G H locs) (hl : lv_has ls 3 [(0, .ref x0), (1, .int x1)]) (hok : gOk (k_X11_breaks_37 τ n x0 x1  G) (fun q => q = G'))  : W p l e rm_X11_breaks s m args below meth c H locs 0 0 (MQ below (gQ X τ none G') args s 0 0 (gFree X)) (F0 m 37 ls []) := by
  unfold k_X11_breaks_37 at hok
  refine lv_aload_n fx.1 fx.2.1 dX11_breaks_37 rfl (lv_at hl 0 rfl) ?_
  refine g_getr fx hw h0 lf_RX11_13 rfl dX11_breaks_38 hok (fun a6 h_a6 hok => ?_)
  refine lv_sipush (v := 167) fx.1 fx.2.1 dX11_breaks_41 (by decide) ?_
  refine lv_aload_n fx.1 fx.2.1 dX11_breaks_44 rfl (lv_at hl 0 rfl) ?_
  refine g_getr fx hw h0 lf_RX11_13 rfl dX11_breaks_45 hok (fun a7 h_a7 hok => ?_)
  refine lv_iconst (v := 5) fx.1 fx.2.1 dX11_breaks_48 (by decide) ?_
  refine g_iald fx hw h_a7 dX11_breaks_49 hok (fun hok => ?_)
  refine g_iast fx hw h_a6 dX11_breaks_50 hok (fun G8 H locs hw hok => ?_)
  refine lv_iconst (v := 0) fx.1 fx.2.1 dX11_breaks_51 (by decide) ?_
  refine lv_istore_n (lv' := [(2, .int (0 : Int32)), (0, .ref x0), (1, .int x1)]) fx.1 fx.2.1 dX11_breaks_52 rfl hl (by decide) rfl (fun ls hl => ?_)
  refine w_l_X11_breaks_53 fx n x0 x1 h0 ?_ n (0 : Int32) G8 _ _ _  hw (lv_sub hl [1, 2, 0] rfl) (gOk_bindK hok)
  intro G13 H locs ls hw hl hok
  have hok : gOk (ρ := gG) (k_X11_breaks_80 τ n x0 x1  G13) _ := hok
  exact w_X11_breaks_80 fx n x0 x1  h0  hr hw (lv_sub hl [0, 1] rfl) hok
set_option maxHeartbeats 4000000 in
set_option maxRecDepth 100000 in
theorem c_X11_breaks (l : Launch) (X : gX) (τ : gτ) (n : Nat) (x0 : Nat) (x1 : Int32) (G : gG) (h0 : gK τ x0 11) {G' : gG} (h : f_X11_breaks τ n x0 x1 G = some G') : gM l X τ yX11_breaks cX11_breaks 3 none rm_X11_breaks [.ref x0, .int x1] G none G' := by
  refine g_body (by decide +kernel) (Nat.le_of_ble_eq_true rfl) ?_
  intro p e s m args below meth c ls fx hr hw hl
  have fx : gFx X p s m args meth c cX11_breaks 3 RX11 := fx
  have hl : lv_has ls 3 [(0, .ref x0), (1, .int x1)] := hl
  have hok : gOk (f_X11_breaks τ n x0 x1 G) (fun q => q = G') := ⟨_, h, rfl⟩
  unfold f_X11_breaks at hok
  show W p l e rm_X11_breaks s m args below meth c s.heap [] 0 0 (MQ below (gQ X τ none G') args s 0 0 (gFree X)) _
  refine lv_sipush (v := 299) fx.1 fx.2.1 dX11_breaks_0 (by decide) ?_
  refine lv_istore_n (lv' := [(2, .int (299 : Int32)), (0, .ref x0), (1, .int x1)]) fx.1 fx.2.1 dX11_breaks_3 rfl hl (by decide) rfl (fun ls hl => ?_)
  refine w_l_X11_breaks_4 fx n x0 x1 h0 ?_ n (299 : Int32) G _ _ _  hw (lv_sub hl [1, 2, 0] rfl) (gOk_bindK hok)
  intro G5 H locs ls hw hl hok
  have hok : gOk (ρ := gG) (k_X11_breaks_37 τ n x0 x1  G5) _ := hok
  exact w_X11_breaks_37 fx n x0 x1  h0  hr hw (lv_sub hl [0, 1] rfl) hok
theorem dX11_goesOn_0 : decode cX11_goesOn 0 = .ok (.aload_n 0, 1) := by decide +kernel
theorem dX11_goesOn_1 : decode cX11_goesOn 1 = .ok (.iload_n 1, 1) := by decide +kernel
theorem dX11_goesOn_2 : decode cX11_goesOn 2 = .ok (.bipush 9, 2) := by decide +kernel
theorem dX11_goesOn_4 : decode cX11_goesOn 4 = .ok (.invokevirtual 62, 3) := by decide +kernel
theorem dX11_goesOn_7 : decode cX11_goesOn 7 = .ok (.ifCond .le 34, 3) := by decide +kernel
theorem dX11_goesOn_10 : decode cX11_goesOn 10 = .ok (.iload_n 2, 1) := by decide +kernel
theorem dX11_goesOn_11 : decode cX11_goesOn 11 = .ok (.ifCond .eq 7, 3) := by decide +kernel
theorem dX11_goesOn_14 : decode cX11_goesOn 14 = .ok (.iconst 2, 1) := by decide +kernel
theorem dX11_goesOn_15 : decode cX11_goesOn 15 = .ok (.goto 4, 3) := by decide +kernel
theorem dX11_goesOn_18 : decode cX11_goesOn 18 = .ok (.iconst 1, 1) := by decide +kernel
theorem dX11_goesOn_19 : decode cX11_goesOn 19 = .ok (.aload_n 0, 1) := by decide +kernel
theorem dX11_goesOn_20 : decode cX11_goesOn 20 = .ok (.iload_n 1, 1) := by decide +kernel
theorem dX11_goesOn_21 : decode cX11_goesOn 21 = .ok (.bipush 9, 2) := by decide +kernel
theorem dX11_goesOn_23 : decode cX11_goesOn 23 = .ok (.invokevirtual 62, 3) := by decide +kernel
theorem dX11_goesOn_26 : decode cX11_goesOn 26 = .ok (.imul, 1) := by decide +kernel
theorem dX11_goesOn_27 : decode cX11_goesOn 27 = .ok (.aload_n 0, 1) := by decide +kernel
theorem dX11_goesOn_28 : decode cX11_goesOn 28 = .ok (.iload_n 1, 1) := by decide +kernel
theorem dX11_goesOn_29 : decode cX11_goesOn 29 = .ok (.invokevirtual 303, 3) := by decide +kernel
theorem dX11_goesOn_32 : decode cX11_goesOn 32 = .ok (.if_icmp .le 9, 3) := by decide +kernel
theorem dX11_goesOn_35 : decode cX11_goesOn 35 = .ok (.aload_n 0, 1) := by decide +kernel
theorem dX11_goesOn_36 : decode cX11_goesOn 36 = .ok (.iload_n 1, 1) := by decide +kernel
theorem dX11_goesOn_37 : decode cX11_goesOn 37 = .ok (.invokevirtual 362, 3) := by decide +kernel
theorem dX11_goesOn_40 : decode cX11_goesOn 40 = .ok (.return_, 1) := by decide +kernel
theorem dX11_goesOn_41 : decode cX11_goesOn 41 = .ok (.aload_n 0, 1) := by decide +kernel
theorem dX11_goesOn_42 : decode cX11_goesOn 42 = .ok (.getfield 13, 3) := by decide +kernel
theorem dX11_goesOn_45 : decode cX11_goesOn 45 = .ok (.iload_n 1, 1) := by decide +kernel
theorem dX11_goesOn_46 : decode cX11_goesOn 46 = .ok (.iconst 5, 1) := by decide +kernel
theorem dX11_goesOn_47 : decode cX11_goesOn 47 = .ok (.invokestatic 59, 3) := by decide +kernel
theorem dX11_goesOn_50 : decode cX11_goesOn 50 = .ok (.bipush 99, 2) := by decide +kernel
theorem dX11_goesOn_52 : decode cX11_goesOn 52 = .ok (.aload_n 0, 1) := by decide +kernel
theorem dX11_goesOn_53 : decode cX11_goesOn 53 = .ok (.iload_n 1, 1) := by decide +kernel
theorem dX11_goesOn_54 : decode cX11_goesOn 54 = .ok (.iconst 5, 1) := by decide +kernel
theorem dX11_goesOn_55 : decode cX11_goesOn 55 = .ok (.invokevirtual 62, 3) := by decide +kernel
theorem dX11_goesOn_58 : decode cX11_goesOn 58 = .ok (.aload_n 0, 1) := by decide +kernel
theorem dX11_goesOn_59 : decode cX11_goesOn 59 = .ok (.iload_n 1, 1) := by decide +kernel
theorem dX11_goesOn_60 : decode cX11_goesOn 60 = .ok (.invokevirtual 324, 3) := by decide +kernel
theorem dX11_goesOn_63 : decode cX11_goesOn 63 = .ok (.iadd, 1) := by decide +kernel
theorem dX11_goesOn_64 : decode cX11_goesOn 64 = .ok (.invokestatic 135, 3) := by decide +kernel
theorem dX11_goesOn_67 : decode cX11_goesOn 67 = .ok (.iastore, 1) := by decide +kernel
theorem dX11_goesOn_68 : decode cX11_goesOn 68 = .ok (.aload_n 0, 1) := by decide +kernel
theorem dX11_goesOn_69 : decode cX11_goesOn 69 = .ok (.iload_n 1, 1) := by decide +kernel
theorem dX11_goesOn_70 : decode cX11_goesOn 70 = .ok (.bipush 6, 2) := by decide +kernel
theorem dX11_goesOn_72 : decode cX11_goesOn 72 = .ok (.invokevirtual 62, 3) := by decide +kernel
theorem dX11_goesOn_75 : decode cX11_goesOn 75 = .ok (.iconst 1, 1) := by decide +kernel
theorem dX11_goesOn_76 : decode cX11_goesOn 76 = .ok (.if_icmp .ne 4, 3) := by decide +kernel
theorem dX11_goesOn_79 : decode cX11_goesOn 79 = .ok (.return_, 1) := by decide +kernel
theorem dX11_goesOn_80 : decode cX11_goesOn 80 = .ok (.aload_n 0, 1) := by decide +kernel
theorem dX11_goesOn_81 : decode cX11_goesOn 81 = .ok (.getfield 13, 3) := by decide +kernel
theorem dX11_goesOn_84 : decode cX11_goesOn 84 = .ok (.iload_n 1, 1) := by decide +kernel
theorem dX11_goesOn_85 : decode cX11_goesOn 85 = .ok (.iconst 3, 1) := by decide +kernel
theorem dX11_goesOn_86 : decode cX11_goesOn 86 = .ok (.invokestatic 59, 3) := by decide +kernel
theorem dX11_goesOn_89 : decode cX11_goesOn 89 = .ok (.dup2, 1) := by decide +kernel
theorem dX11_goesOn_90 : decode cX11_goesOn 90 = .ok (.iaload, 1) := by decide +kernel
theorem dX11_goesOn_91 : decode cX11_goesOn 91 = .ok (.iconst 1, 1) := by decide +kernel
theorem dX11_goesOn_92 : decode cX11_goesOn 92 = .ok (.isub, 1) := by decide +kernel
theorem dX11_goesOn_93 : decode cX11_goesOn 93 = .ok (.iastore, 1) := by decide +kernel
theorem dX11_goesOn_94 : decode cX11_goesOn 94 = .ok (.aload_n 0, 1) := by decide +kernel
theorem dX11_goesOn_95 : decode cX11_goesOn 95 = .ok (.iload_n 1, 1) := by decide +kernel
theorem dX11_goesOn_96 : decode cX11_goesOn 96 = .ok (.iconst 3, 1) := by decide +kernel
theorem dX11_goesOn_97 : decode cX11_goesOn 97 = .ok (.invokevirtual 62, 3) := by decide +kernel
theorem dX11_goesOn_100 : decode cX11_goesOn 100 = .ok (.ifCond .ne 8, 3) := by decide +kernel
theorem dX11_goesOn_103 : decode cX11_goesOn 103 = .ok (.aload_n 0, 1) := by decide +kernel
theorem dX11_goesOn_104 : decode cX11_goesOn 104 = .ok (.iload_n 1, 1) := by decide +kernel
theorem dX11_goesOn_105 : decode cX11_goesOn 105 = .ok (.invokevirtual 362, 3) := by decide +kernel
theorem dX11_goesOn_108 : decode cX11_goesOn 108 = .ok (.return_, 1) := by decide +kernel
theorem lv_RX11_362 : gLv RX11 362 RX11 yX11_breaks cX11_breaks 3 none 1 := gLv_of (wA_t (wt8 (List.mem_of_getElem? (i := 178) (by decide +kernel))) (by decide +kernel)) (wA_t (wt8 (List.mem_of_getElem? (i := 180) (by decide +kernel))) (by decide +kernel)) (wA_of (List.mem_append_left _ (List.mem_map.mpr ⟨(⟨"YearRopeModel", "breaks", "(I)V"⟩, 20), wp7 (List.mem_of_getElem? (i := 9) (by decide +kernel)), rfl⟩)) (by decide +kernel)) (wA_t (wt1 (List.mem_of_getElem? (i := 12) (by decide +kernel))) (by decide +kernel)) (wA_t (wt8 (List.mem_of_getElem? (i := 181) (by decide +kernel))) (by decide +kernel)) ⟨rfl, by decide +kernel, by decide +kernel, by decide +kernel⟩
def rm_X11_goesOn : Room := { frames := 8, cells := 0, slots := 0, locals := 185 }
def k_X11_goesOn_41 (τ : gτ) (n : Nat) (x0 : Nat) (x1 : Int32)  (G : gG) : Option (gG) :=
  (gr G 11 1 x0).bind fun a2 =>
  (f_X11_at x1 (5 : Int32)).bind fun v3 =>
  (f_X11_of τ x0 x1 (5 : Int32) G).bind fun v4 =>
  gBind2 (f_X11_wearsBy τ n x0 x1 G) fun v5 G6 =>
  gchk (gIn v3 (gn τ a2)) <| gLet (gse G6 a2 (Int32.toNatClampNeg v3) (gmin (99 : Int32) (v4 + v5))) fun G7 =>
  (f_X11_of τ x0 x1 (6 : Int32) G7).bind fun v8 =>
  if v8 = (1 : Int32) then (some G7)
  else ((gr G7 11 1 x0).bind fun a9 =>
  (f_X11_at x1 (3 : Int32)).bind fun v10 =>
  gchk (gIn v10 (gn τ a9)) <|
  gchk (gIn v10 (gn τ a9)) <| gLet (gse G7 a9 (Int32.toNatClampNeg v10) ((ge G7 a9 (Int32.toNatClampNeg v10)) - (1 : Int32))) fun G11 =>
  (f_X11_of τ x0 x1 (3 : Int32) G11).bind fun v12 =>
  if v12 = 0 then ((f_X11_breaks τ n x0 x1 G11).bind fun G13 =>
  some G13)
  else (some G11))
def k_X11_goesOn_19 (τ : gτ) (n : Nat) (x0 : Nat) (x1 : Int32) (s0 : Int32) (G : gG) : Option (gG) :=
  (f_X11_of τ x0 x1 (9 : Int32) G).bind fun v14 =>
  gBind2 (f_X11_bearsOf τ n x0 x1 G) fun v15 G16 =>
  if (s0 * v14) ≤ v15 then (k_X11_goesOn_41 τ n x0 x1  G16)
  else ((f_X11_breaks τ n x0 x1 G16).bind fun G17 =>
  some G17)
def f_X11_goesOn (τ : gτ) (n : Nat) (x0 : Nat) (x1 : Int32) (x2 : Int32) (G : gG) : Option (gG) :=
  (f_X11_of τ x0 x1 (9 : Int32) G).bind fun v1 =>
  if v1 ≤ 0 then (k_X11_goesOn_41 τ n x0 x1  G)
  else (if x2 = 0 then (k_X11_goesOn_19 τ n x0 x1 (1 : Int32) G)
  else (k_X11_goesOn_19 τ n x0 x1 (2 : Int32) G))
set_option maxHeartbeats 4000000 in
set_option maxRecDepth 100000 in
theorem w_X11_goesOn_41 {X : gX} {τ : gτ} {p : Program} {l : Launch} {e : Env} {s : State} {m : MethodId} {args : Array Value} {below : List Frame} {meth : Method} {c : Code} (fx : gFx X p s m args meth c cX11_goesOn 3 RX11) (n : Nat) (x0 : Nat) (x1 : Int32)  (h0 : gK τ x0 11)  (hr : meth.sig.returnType = none) {G' : gG} {G : gG} {H : Heap} {locs : List Loc} {ls : Array Slot} (hw : gHw X τ G H locs) (hl : lv_has ls 3 [(0, .ref x0), (1, .int x1)]) (hok : gOk (k_X11_goesOn_41 τ n x0 x1  G) (fun q => q = G'))  : W p l e rm_X11_goesOn s m args below meth c H locs 0 0 (MQ below (gQ X τ none G') args s 0 0 (gFree X)) (F0 m 41 ls []) := by
  unfold k_X11_goesOn_41 at hok
  refine lv_aload_n fx.1 fx.2.1 dX11_goesOn_41 rfl (lv_at hl 0 rfl) ?_
  refine g_getr fx hw h0 lf_RX11_13 rfl dX11_goesOn_42 hok (fun a2 h_a2 hok => ?_)
  refine lv_iload_n fx.1 fx.2.1 dX11_goesOn_45 rfl (lv_at hl 1 rfl) ?_
  refine lv_iconst (v := 5) fx.1 fx.2.1 dX11_goesOn_46 (by decide) ?_
  obtain ⟨v3, hf, hok⟩ := gOk_bind hok
  refine g_callS0 fx hw (c_X11_at l X τ x1 (5 : Int32) G  hf) ls_RX11_59 ⟨rfl, rfl⟩ rfl hl.1 rfl ⟨Nat.le_of_ble_eq_true rfl, Nat.le_of_ble_eq_true rfl⟩ (Nat.le_of_ble_eq_true rfl) ⟨Nat.le_of_ble_eq_true rfl, Nat.le_of_ble_eq_true rfl⟩ dX11_goesOn_47 (fun H locs hw => ?_)
  refine lv_bipush (v := 99) fx.1 fx.2.1 dX11_goesOn_50 (by decide) ?_
  refine lv_aload_n fx.1 fx.2.1 dX11_goesOn_52 rfl (lv_at hl 0 rfl) ?_
  refine lv_iload_n fx.1 fx.2.1 dX11_goesOn_53 rfl (lv_at hl 1 rfl) ?_
  refine lv_iconst (v := 5) fx.1 fx.2.1 dX11_goesOn_54 (by decide) ?_
  obtain ⟨v4, hf, hok⟩ := gOk_bind hok
  refine g_callV0 (κ := 11) fx hw (c_X11_of l X τ x0 x1 (5 : Int32) G h0 hf) lv_RX11_62 ⟨rfl, rfl⟩ rfl rfl h0 rfl hl.1 rfl ⟨Nat.le_of_ble_eq_true rfl, Nat.le_of_ble_eq_true rfl⟩ (Nat.le_of_ble_eq_true rfl) ⟨Nat.le_of_ble_eq_true rfl, Nat.le_of_ble_eq_true rfl⟩ dX11_goesOn_55 (fun H locs hw => ?_)
  refine lv_aload_n fx.1 fx.2.1 dX11_goesOn_58 rfl (lv_at hl 0 rfl) ?_
  refine lv_iload_n fx.1 fx.2.1 dX11_goesOn_59 rfl (lv_at hl 1 rfl) ?_
  obtain ⟨v5, G6, hf, hok⟩ := gOk_bind2 hok
  refine g_callV0 (κ := 11) fx hw (c_X11_wearsBy l X τ n x0 x1 G h0 hf) lv_RX11_324 ⟨rfl, rfl⟩ rfl rfl h0 rfl hl.1 rfl ⟨Nat.le_of_ble_eq_true rfl, Nat.le_of_ble_eq_true rfl⟩ (Nat.le_of_ble_eq_true rfl) ⟨Nat.le_of_ble_eq_true rfl, Nat.le_of_ble_eq_true rfl⟩ dX11_goesOn_60 (fun H locs hw => ?_)
  refine lv_iadd fx.1 fx.2.1 dX11_goesOn_63 ?_
  refine g_mmin fx hl.1 lm_RX11_135 lmst_min lm_init lmco_min ⟨Nat.le_of_ble_eq_true rfl, Nat.le_of_ble_eq_true rfl, Nat.le_of_ble_eq_true rfl, Nat.le_of_ble_eq_true rfl⟩ dX11_goesOn_64 ?_
  refine g_iast fx hw h_a2 dX11_goesOn_67 hok (fun G7 H locs hw hok => ?_)
  refine lv_aload_n fx.1 fx.2.1 dX11_goesOn_68 rfl (lv_at hl 0 rfl) ?_
  refine lv_iload_n fx.1 fx.2.1 dX11_goesOn_69 rfl (lv_at hl 1 rfl) ?_
  refine lv_bipush (v := 6) fx.1 fx.2.1 dX11_goesOn_70 (by decide) ?_
  obtain ⟨v8, hf, hok⟩ := gOk_bind hok
  refine g_callV0 (κ := 11) fx hw (c_X11_of l X τ x0 x1 (6 : Int32) G7 h0 hf) lv_RX11_62 ⟨rfl, rfl⟩ rfl rfl h0 rfl hl.1 rfl ⟨Nat.le_of_ble_eq_true rfl, Nat.le_of_ble_eq_true rfl⟩ (Nat.le_of_ble_eq_true rfl) ⟨Nat.le_of_ble_eq_true rfl, Nat.le_of_ble_eq_true rfl⟩ dX11_goesOn_72 (fun H locs hw => ?_)
  refine lv_iconst (v := 1) fx.1 fx.2.1 dX11_goesOn_75 (by decide) ?_
  refine g_icmp_ne (tgt := 80) fx dX11_goesOn_76 (by decide) hok (fun hok => ?_) (fun hok => ?_)
  · cases gOk_some hok
    exact g_vret fx hw hr dX11_goesOn_79
  · refine lv_aload_n fx.1 fx.2.1 dX11_goesOn_80 rfl (lv_at hl 0 rfl) ?_
    refine g_getr fx hw h0 lf_RX11_13 rfl dX11_goesOn_81 hok (fun a9 h_a9 hok => ?_)
    refine lv_iload_n fx.1 fx.2.1 dX11_goesOn_84 rfl (lv_at hl 1 rfl) ?_
    refine lv_iconst (v := 3) fx.1 fx.2.1 dX11_goesOn_85 (by decide) ?_
    obtain ⟨v10, hf, hok⟩ := gOk_bind hok
    refine g_callS0 fx hw (c_X11_at l X τ x1 (3 : Int32) G7  hf) ls_RX11_59 ⟨rfl, rfl⟩ rfl hl.1 rfl ⟨Nat.le_of_ble_eq_true rfl, Nat.le_of_ble_eq_true rfl⟩ (Nat.le_of_ble_eq_true rfl) ⟨Nat.le_of_ble_eq_true rfl, Nat.le_of_ble_eq_true rfl⟩ dX11_goesOn_86 (fun H locs hw => ?_)
    refine lv_dup2_11 fx.1 fx.2.1 dX11_goesOn_89 rfl rfl ?_
    refine g_iald fx hw h_a9 dX11_goesOn_90 hok (fun hok => ?_)
    refine lv_iconst (v := 1) fx.1 fx.2.1 dX11_goesOn_91 (by decide) ?_
    refine lv_isub fx.1 fx.2.1 dX11_goesOn_92 ?_
    refine g_iast fx hw h_a9 dX11_goesOn_93 hok (fun G11 H locs hw hok => ?_)
    refine lv_aload_n fx.1 fx.2.1 dX11_goesOn_94 rfl (lv_at hl 0 rfl) ?_
    refine lv_iload_n fx.1 fx.2.1 dX11_goesOn_95 rfl (lv_at hl 1 rfl) ?_
    refine lv_iconst (v := 3) fx.1 fx.2.1 dX11_goesOn_96 (by decide) ?_
    obtain ⟨v12, hf, hok⟩ := gOk_bind hok
    refine g_callV0 (κ := 11) fx hw (c_X11_of l X τ x0 x1 (3 : Int32) G11 h0 hf) lv_RX11_62 ⟨rfl, rfl⟩ rfl rfl h0 rfl hl.1 rfl ⟨Nat.le_of_ble_eq_true rfl, Nat.le_of_ble_eq_true rfl⟩ (Nat.le_of_ble_eq_true rfl) ⟨Nat.le_of_ble_eq_true rfl, Nat.le_of_ble_eq_true rfl⟩ dX11_goesOn_97 (fun H locs hw => ?_)
    refine g_if_ne (tgt := 108) fx dX11_goesOn_100 (by decide) hok (fun hok => ?_) (fun hok => ?_)
    · refine lv_aload_n fx.1 fx.2.1 dX11_goesOn_103 rfl (lv_at hl 0 rfl) ?_
      refine lv_iload_n fx.1 fx.2.1 dX11_goesOn_104 rfl (lv_at hl 1 rfl) ?_
      obtain ⟨G13, hf, hok⟩ := gOk_bind hok
      refine g_callV0 (κ := 11) fx hw (c_X11_breaks l X τ n x0 x1 G11 h0 hf) lv_RX11_362 ⟨rfl, rfl⟩ rfl rfl h0 rfl hl.1 rfl ⟨Nat.le_of_ble_eq_true rfl, Nat.le_of_ble_eq_true rfl⟩ (Nat.le_of_ble_eq_true rfl) ⟨Nat.le_of_ble_eq_true rfl, Nat.le_of_ble_eq_true rfl⟩ dX11_goesOn_105 (fun H locs hw => ?_)
      cases gOk_some hok
      exact g_vret fx hw hr dX11_goesOn_108
    · cases gOk_some hok
      exact g_vret fx hw hr dX11_goesOn_108
set_option maxHeartbeats 4000000 in
set_option maxRecDepth 100000 in
theorem w_X11_goesOn_19 {X : gX} {τ : gτ} {p : Program} {l : Launch} {e : Env} {s : State} {m : MethodId} {args : Array Value} {below : List Frame} {meth : Method} {c : Code} (fx : gFx X p s m args meth c cX11_goesOn 3 RX11) (n : Nat) (x0 : Nat) (x1 : Int32) (s0 : Int32) (h0 : gK τ x0 11)  (hr : meth.sig.returnType = none) {G' : gG} {G : gG} {H : Heap} {locs : List Loc} {ls : Array Slot} (hw : gHw X τ G H locs) (hl : lv_has ls 3 [(0, .ref x0), (1, .int x1)]) (hok : gOk (k_X11_goesOn_19 τ n x0 x1 s0 G) (fun q => q = G'))  : W p l e rm_X11_goesOn s m args below meth c H locs 0 0 (MQ below (gQ X τ none G') args s 0 0 (gFree X)) (F0 m 19 ls [.int s0]) := by
  unfold k_X11_goesOn_19 at hok
  refine lv_aload_n fx.1 fx.2.1 dX11_goesOn_19 rfl (lv_at hl 0 rfl) ?_
  refine lv_iload_n fx.1 fx.2.1 dX11_goesOn_20 rfl (lv_at hl 1 rfl) ?_
  refine lv_bipush (v := 9) fx.1 fx.2.1 dX11_goesOn_21 (by decide) ?_
  obtain ⟨v14, hf, hok⟩ := gOk_bind hok
  refine g_callV0 (κ := 11) fx hw (c_X11_of l X τ x0 x1 (9 : Int32) G h0 hf) lv_RX11_62 ⟨rfl, rfl⟩ rfl rfl h0 rfl hl.1 rfl ⟨Nat.le_of_ble_eq_true rfl, Nat.le_of_ble_eq_true rfl⟩ (Nat.le_of_ble_eq_true rfl) ⟨Nat.le_of_ble_eq_true rfl, Nat.le_of_ble_eq_true rfl⟩ dX11_goesOn_23 (fun H locs hw => ?_)
  refine lv_imul fx.1 fx.2.1 dX11_goesOn_26 ?_
  refine lv_aload_n fx.1 fx.2.1 dX11_goesOn_27 rfl (lv_at hl 0 rfl) ?_
  refine lv_iload_n fx.1 fx.2.1 dX11_goesOn_28 rfl (lv_at hl 1 rfl) ?_
  obtain ⟨v15, G16, hf, hok⟩ := gOk_bind2 hok
  refine g_callV0 (κ := 11) fx hw (c_X11_bearsOf l X τ n x0 x1 G h0 hf) lv_RX11_303 ⟨rfl, rfl⟩ rfl rfl h0 rfl hl.1 rfl ⟨Nat.le_of_ble_eq_true rfl, Nat.le_of_ble_eq_true rfl⟩ (Nat.le_of_ble_eq_true rfl) ⟨Nat.le_of_ble_eq_true rfl, Nat.le_of_ble_eq_true rfl⟩ dX11_goesOn_29 (fun H locs hw => ?_)
  refine g_icmp_le (tgt := 41) fx dX11_goesOn_32 (by decide) hok (fun hok => ?_) (fun hok => ?_)
  · exact w_X11_goesOn_41 fx n x0 x1  h0  hr hw (lv_sub hl [0, 1] rfl) hok
  · refine lv_aload_n fx.1 fx.2.1 dX11_goesOn_35 rfl (lv_at hl 0 rfl) ?_
    refine lv_iload_n fx.1 fx.2.1 dX11_goesOn_36 rfl (lv_at hl 1 rfl) ?_
    obtain ⟨G17, hf, hok⟩ := gOk_bind hok
    refine g_callV0 (κ := 11) fx hw (c_X11_breaks l X τ n x0 x1 G16 h0 hf) lv_RX11_362 ⟨rfl, rfl⟩ rfl rfl h0 rfl hl.1 rfl ⟨Nat.le_of_ble_eq_true rfl, Nat.le_of_ble_eq_true rfl⟩ (Nat.le_of_ble_eq_true rfl) ⟨Nat.le_of_ble_eq_true rfl, Nat.le_of_ble_eq_true rfl⟩ dX11_goesOn_37 (fun H locs hw => ?_)
    cases gOk_some hok
    exact g_vret fx hw hr dX11_goesOn_40
set_option maxHeartbeats 4000000 in
set_option maxRecDepth 100000 in
theorem c_X11_goesOn (l : Launch) (X : gX) (τ : gτ) (n : Nat) (x0 : Nat) (x1 : Int32) (x2 : Int32) (G : gG) (h0 : gK τ x0 11) {G' : gG} (h : f_X11_goesOn τ n x0 x1 x2 G = some G') : gM l X τ yX11_goesOn cX11_goesOn 3 none rm_X11_goesOn [.ref x0, .int x1, .int x2] G none G' := by
  refine g_body (by decide +kernel) (Nat.le_of_ble_eq_true rfl) ?_
  intro p e s m args below meth c ls fx hr hw hl
  have fx : gFx X p s m args meth c cX11_goesOn 3 RX11 := fx
  have hl : lv_has ls 3 [(0, .ref x0), (1, .int x1), (2, .int x2)] := hl
  have hok : gOk (f_X11_goesOn τ n x0 x1 x2 G) (fun q => q = G') := ⟨_, h, rfl⟩
  unfold f_X11_goesOn at hok
  show W p l e rm_X11_goesOn s m args below meth c s.heap [] 0 0 (MQ below (gQ X τ none G') args s 0 0 (gFree X)) _
  refine lv_aload_n fx.1 fx.2.1 dX11_goesOn_0 rfl (lv_at hl 0 rfl) ?_
  refine lv_iload_n fx.1 fx.2.1 dX11_goesOn_1 rfl (lv_at hl 1 rfl) ?_
  refine lv_bipush (v := 9) fx.1 fx.2.1 dX11_goesOn_2 (by decide) ?_
  obtain ⟨v1, hf, hok⟩ := gOk_bind hok
  refine g_callV0 (κ := 11) fx hw (c_X11_of l X τ x0 x1 (9 : Int32) G h0 hf) lv_RX11_62 ⟨rfl, rfl⟩ rfl rfl h0 rfl hl.1 rfl ⟨Nat.le_of_ble_eq_true rfl, Nat.le_of_ble_eq_true rfl⟩ (Nat.le_of_ble_eq_true rfl) ⟨Nat.le_of_ble_eq_true rfl, Nat.le_of_ble_eq_true rfl⟩ dX11_goesOn_4 (fun H locs hw => ?_)
  refine g_if_le (tgt := 41) fx dX11_goesOn_7 (by decide) hok (fun hok => ?_) (fun hok => ?_)
  · exact w_X11_goesOn_41 fx n x0 x1  h0  hr hw (lv_sub hl [0, 1] rfl) hok
  · refine lv_iload_n fx.1 fx.2.1 dX11_goesOn_10 rfl (lv_at hl 2 rfl) ?_
    refine g_if_eq (tgt := 18) fx dX11_goesOn_11 (by decide) hok (fun hok => ?_) (fun hok => ?_)
    · refine lv_iconst (v := 1) fx.1 fx.2.1 dX11_goesOn_18 (by decide) ?_
      exact w_X11_goesOn_19 fx n x0 x1 (1 : Int32) h0  hr hw (lv_sub hl [0, 1] rfl) hok
    · refine lv_iconst (v := 2) fx.1 fx.2.1 dX11_goesOn_14 (by decide) ?_
      refine lv_goto (tgt := 19) fx.1 fx.2.1 dX11_goesOn_15 (by decide) ?_
      exact w_X11_goesOn_19 fx n x0 x1 (2 : Int32) h0  hr hw (lv_sub hl [0, 1] rfl) hok
theorem dX11_oneSeason_0 : decode cX11_oneSeason 0 = .ok (.aload_n 0, 1) := by decide +kernel
theorem dX11_oneSeason_1 : decode cX11_oneSeason 1 = .ok (.bipush 100, 2) := by decide +kernel
theorem dX11_oneSeason_3 : decode cX11_oneSeason 3 = .ok (.invokevirtual 365, 3) := by decide +kernel
theorem dX11_oneSeason_6 : decode cX11_oneSeason 6 = .ok (.aload_n 0, 1) := by decide +kernel
theorem dX11_oneSeason_7 : decode cX11_oneSeason 7 = .ok (.getfield 13, 3) := by decide +kernel
theorem dX11_oneSeason_10 : decode cX11_oneSeason 10 = .ok (.bipush 6, 2) := by decide +kernel
theorem dX11_oneSeason_12 : decode cX11_oneSeason 12 = .ok (.iaload, 1) := by decide +kernel
theorem dX11_oneSeason_13 : decode cX11_oneSeason 13 = .ok (.if_icmp .ge 7, 3) := by decide +kernel
theorem dX11_oneSeason_16 : decode cX11_oneSeason 16 = .ok (.iconst 1, 1) := by decide +kernel
theorem dX11_oneSeason_17 : decode cX11_oneSeason 17 = .ok (.goto 4, 3) := by decide +kernel
theorem dX11_oneSeason_20 : decode cX11_oneSeason 20 = .ok (.iconst 0, 1) := by decide +kernel
theorem dX11_oneSeason_21 : decode cX11_oneSeason 21 = .ok (.istore_n 1, 1) := by decide +kernel
theorem dX11_oneSeason_22 : decode cX11_oneSeason 22 = .ok (.iconst 0, 1) := by decide +kernel
theorem dX11_oneSeason_23 : decode cX11_oneSeason 23 = .ok (.istore_n 2, 1) := by decide +kernel
theorem dX11_oneSeason_24 : decode cX11_oneSeason 24 = .ok (.iload_n 2, 1) := by decide +kernel
theorem dX11_oneSeason_25 : decode cX11_oneSeason 25 = .ok (.aload_n 0, 1) := by decide +kernel
theorem dX11_oneSeason_26 : decode cX11_oneSeason 26 = .ok (.invokevirtual 73, 3) := by decide +kernel
theorem dX11_oneSeason_29 : decode cX11_oneSeason 29 = .ok (.if_icmp .ge 23, 3) := by decide +kernel
theorem dX11_oneSeason_32 : decode cX11_oneSeason 32 = .ok (.aload_n 0, 1) := by decide +kernel
theorem dX11_oneSeason_33 : decode cX11_oneSeason 33 = .ok (.iload_n 2, 1) := by decide +kernel
theorem dX11_oneSeason_34 : decode cX11_oneSeason 34 = .ok (.invokevirtual 146, 3) := by decide +kernel
theorem dX11_oneSeason_37 : decode cX11_oneSeason 37 = .ok (.ifCond .eq 9, 3) := by decide +kernel
theorem dX11_oneSeason_40 : decode cX11_oneSeason 40 = .ok (.aload_n 0, 1) := by decide +kernel
theorem dX11_oneSeason_41 : decode cX11_oneSeason 41 = .ok (.iload_n 2, 1) := by decide +kernel
theorem dX11_oneSeason_42 : decode cX11_oneSeason 42 = .ok (.iload_n 1, 1) := by decide +kernel
theorem dX11_oneSeason_43 : decode cX11_oneSeason 43 = .ok (.invokevirtual 368, 3) := by decide +kernel
theorem dX11_oneSeason_46 : decode cX11_oneSeason 46 = .ok (.iinc 2 1, 3) := by decide +kernel
theorem dX11_oneSeason_49 : decode cX11_oneSeason 49 = .ok (.goto (-25), 3) := by decide +kernel
theorem dX11_oneSeason_52 : decode cX11_oneSeason 52 = .ok (.iconst 0, 1) := by decide +kernel
theorem dX11_oneSeason_53 : decode cX11_oneSeason 53 = .ok (.istore_n 2, 1) := by decide +kernel
theorem dX11_oneSeason_54 : decode cX11_oneSeason 54 = .ok (.iload_n 2, 1) := by decide +kernel
theorem dX11_oneSeason_55 : decode cX11_oneSeason 55 = .ok (.aload_n 0, 1) := by decide +kernel
theorem dX11_oneSeason_56 : decode cX11_oneSeason 56 = .ok (.invokevirtual 65, 3) := by decide +kernel
theorem dX11_oneSeason_59 : decode cX11_oneSeason 59 = .ok (.if_icmp .ge 57, 3) := by decide +kernel
theorem dX11_oneSeason_62 : decode cX11_oneSeason 62 = .ok (.aload_n 0, 1) := by decide +kernel
theorem dX11_oneSeason_63 : decode cX11_oneSeason 63 = .ok (.iload_n 2, 1) := by decide +kernel
theorem dX11_oneSeason_64 : decode cX11_oneSeason 64 = .ok (.iconst 1, 1) := by decide +kernel
theorem dX11_oneSeason_65 : decode cX11_oneSeason 65 = .ok (.invokevirtual 132, 3) := by decide +kernel
theorem dX11_oneSeason_68 : decode cX11_oneSeason 68 = .ok (.ifCond .le 42, 3) := by decide +kernel
theorem dX11_oneSeason_71 : decode cX11_oneSeason 71 = .ok (.aload_n 0, 1) := by decide +kernel
theorem dX11_oneSeason_72 : decode cX11_oneSeason 72 = .ok (.bipush 100, 2) := by decide +kernel
theorem dX11_oneSeason_74 : decode cX11_oneSeason 74 = .ok (.invokevirtual 365, 3) := by decide +kernel
theorem dX11_oneSeason_77 : decode cX11_oneSeason 77 = .ok (.aload_n 0, 1) := by decide +kernel
theorem dX11_oneSeason_78 : decode cX11_oneSeason 78 = .ok (.getfield 13, 3) := by decide +kernel
theorem dX11_oneSeason_81 : decode cX11_oneSeason 81 = .ok (.bipush 7, 2) := by decide +kernel
theorem dX11_oneSeason_83 : decode cX11_oneSeason 83 = .ok (.iaload, 1) := by decide +kernel
theorem dX11_oneSeason_84 : decode cX11_oneSeason 84 = .ok (.if_icmp .ge 26, 3) := by decide +kernel
theorem dX11_oneSeason_87 : decode cX11_oneSeason 87 = .ok (.aload_n 0, 1) := by decide +kernel
theorem dX11_oneSeason_88 : decode cX11_oneSeason 88 = .ok (.getfield 13, 3) := by decide +kernel
theorem dX11_oneSeason_91 : decode cX11_oneSeason 91 = .ok (.iload_n 2, 1) := by decide +kernel
theorem dX11_oneSeason_92 : decode cX11_oneSeason 92 = .ok (.iconst 2, 1) := by decide +kernel
theorem dX11_oneSeason_93 : decode cX11_oneSeason 93 = .ok (.invokestatic 55, 3) := by decide +kernel
theorem dX11_oneSeason_96 : decode cX11_oneSeason 96 = .ok (.bipush 9, 2) := by decide +kernel
theorem dX11_oneSeason_98 : decode cX11_oneSeason 98 = .ok (.aload_n 0, 1) := by decide +kernel
theorem dX11_oneSeason_99 : decode cX11_oneSeason 99 = .ok (.iload_n 2, 1) := by decide +kernel
theorem dX11_oneSeason_100 : decode cX11_oneSeason 100 = .ok (.iconst 2, 1) := by decide +kernel
theorem dX11_oneSeason_101 : decode cX11_oneSeason 101 = .ok (.invokevirtual 132, 3) := by decide +kernel
theorem dX11_oneSeason_104 : decode cX11_oneSeason 104 = .ok (.iconst 1, 1) := by decide +kernel
theorem dX11_oneSeason_105 : decode cX11_oneSeason 105 = .ok (.iadd, 1) := by decide +kernel
theorem dX11_oneSeason_106 : decode cX11_oneSeason 106 = .ok (.invokestatic 135, 3) := by decide +kernel
theorem dX11_oneSeason_109 : decode cX11_oneSeason 109 = .ok (.iastore, 1) := by decide +kernel
theorem dX11_oneSeason_110 : decode cX11_oneSeason 110 = .ok (.iinc 2 1, 3) := by decide +kernel
theorem dX11_oneSeason_113 : decode cX11_oneSeason 113 = .ok (.goto (-59), 3) := by decide +kernel
theorem dX11_oneSeason_116 : decode cX11_oneSeason 116 = .ok (.aload_n 0, 1) := by decide +kernel
theorem dX11_oneSeason_117 : decode cX11_oneSeason 117 = .ok (.getfield 13, 3) := by decide +kernel
theorem dX11_oneSeason_120 : decode cX11_oneSeason 120 = .ok (.iconst 5, 1) := by decide +kernel
theorem dX11_oneSeason_121 : decode cX11_oneSeason 121 = .ok (.sipush 9999, 3) := by decide +kernel
theorem dX11_oneSeason_124 : decode cX11_oneSeason 124 = .ok (.aload_n 0, 1) := by decide +kernel
theorem dX11_oneSeason_125 : decode cX11_oneSeason 125 = .ok (.getfield 13, 3) := by decide +kernel
theorem dX11_oneSeason_128 : decode cX11_oneSeason 128 = .ok (.iconst 5, 1) := by decide +kernel
theorem dX11_oneSeason_129 : decode cX11_oneSeason 129 = .ok (.iaload, 1) := by decide +kernel
theorem dX11_oneSeason_130 : decode cX11_oneSeason 130 = .ok (.iconst 1, 1) := by decide +kernel
theorem dX11_oneSeason_131 : decode cX11_oneSeason 131 = .ok (.iadd, 1) := by decide +kernel
theorem dX11_oneSeason_132 : decode cX11_oneSeason 132 = .ok (.invokestatic 135, 3) := by decide +kernel
theorem dX11_oneSeason_135 : decode cX11_oneSeason 135 = .ok (.iastore, 1) := by decide +kernel
theorem dX11_oneSeason_136 : decode cX11_oneSeason 136 = .ok (.return_, 1) := by decide +kernel
theorem lv_RX11_365 : gLv RX11 365 RX11 yX11_draw cX11_draw 2 (some .int) 1 := gLv_of (wA_t (wt8 (List.mem_of_getElem? (i := 169) (by decide +kernel))) (by decide +kernel)) (wA_t (wt8 (List.mem_of_getElem? (i := 171) (by decide +kernel))) (by decide +kernel)) (wA_of (List.mem_append_left _ (List.mem_map.mpr ⟨(⟨"YearRopeModel", "draw", "(I)I"⟩, 20), wp7 (List.mem_of_getElem? (i := 7) (by decide +kernel)), rfl⟩)) (by decide +kernel)) (wA_t (wt1 (List.mem_of_getElem? (i := 12) (by decide +kernel))) (by decide +kernel)) (wA_t (wt8 (List.mem_of_getElem? (i := 172) (by decide +kernel))) (by decide +kernel)) ⟨rfl, by decide +kernel, by decide +kernel, by decide +kernel⟩
theorem lv_RX11_368 : gLv RX11 368 RX11 yX11_goesOn cX11_goesOn 3 none 2 := gLv_of (wA_t (wt8 (List.mem_of_getElem? (i := 174) (by decide +kernel))) (by decide +kernel)) (wA_t (wt8 (List.mem_of_getElem? (i := 176) (by decide +kernel))) (by decide +kernel)) (wA_of (List.mem_append_left _ (List.mem_map.mpr ⟨(⟨"YearRopeModel", "goesOn", "(IZ)V"⟩, 20), wp7 (List.mem_of_getElem? (i := 8) (by decide +kernel)), rfl⟩)) (by decide +kernel)) (wA_t (wt1 (List.mem_of_getElem? (i := 12) (by decide +kernel))) (by decide +kernel)) (wA_t (wt8 (List.mem_of_getElem? (i := 177) (by decide +kernel))) (by decide +kernel)) ⟨rfl, by decide +kernel, by decide +kernel, by decide +kernel⟩
def rm_X11_oneSeason : Room := { frames := 9, cells := 0, slots := 0, locals := 207 }
def b_X11_oneSeason_24 (τ : gτ) (n : Nat) (x0 : Nat) (x1 : Int32) (x2 : Int32) (G : gG) : Option ((Int32 × gG) ⊕ ((gG))) :=
  (f_X11_ropes τ x0 G).bind fun v4 =>
  if v4 ≤ x2 then (some (.inr G))
  else ((f_X11_isWhole τ x0 x2 G).bind fun v5 =>
  if v5 = 0 then (gLet (x2 + 1) fun v6 =>
  some (.inl (v6, G)))
  else ((f_X11_goesOn τ n x0 x2 x1 G).bind fun G7 =>
  gLet (x2 + 1) fun v8 =>
  some (.inl (v8, G7))))
def l_X11_oneSeason_24 (τ : gτ) (n : Nat) (x0 : Nat) (x1 : Int32) (x2 : Int32) (G : gG) : Option ((gG)) :=
  gIter (fun (q : Int32 × gG) => b_X11_oneSeason_24 τ n x0 x1 q.1 q.2) n (x2, G)
def b_X11_oneSeason_54 (τ : gτ) (n : Nat) (x0 : Nat) (x2 : Int32) (G : gG) : Option ((Int32 × gG) ⊕ ((gG))) :=
  (f_X11_yarns τ x0 G).bind fun v10 =>
  if v10 ≤ x2 then (some (.inr G))
  else ((f_X11_ofYarn τ x0 x2 (1 : Int32) G).bind fun v11 =>
  if v11 ≤ 0 then (gLet (x2 + 1) fun v12 =>
  some (.inl (v12, G)))
  else (gBind2 (f_X11_draw τ x0 (100 : Int32) G) fun v13 G14 =>
  (gr G14 11 1 x0).bind fun a15 =>
  gchk (gIn (7 : Int32) (gn τ a15)) <|
  if (ge G14 a15 (Int32.toNatClampNeg (7 : Int32))) ≤ v13 then (gLet (x2 + 1) fun v16 =>
  some (.inl (v16, G14)))
  else ((gr G14 11 1 x0).bind fun a17 =>
  (f_X11_yarnAt x2 (2 : Int32)).bind fun v18 =>
  (f_X11_ofYarn τ x0 x2 (2 : Int32) G14).bind fun v19 =>
  gchk (gIn v18 (gn τ a17)) <| gLet (gse G14 a17 (Int32.toNatClampNeg v18) (gmin (9 : Int32) (v19 + (1 : Int32)))) fun G20 =>
  gLet (x2 + 1) fun v21 =>
  some (.inl (v21, G20)))))
def l_X11_oneSeason_54 (τ : gτ) (n : Nat) (x0 : Nat) (x2 : Int32) (G : gG) : Option ((gG)) :=
  gIter (fun (q : Int32 × gG) => b_X11_oneSeason_54 τ n x0 q.1 q.2) n (x2, G)
def k_X11_oneSeason_116 (τ : gτ) (n : Nat) (x0 : Nat)  (G : gG) : Option (gG) :=
  (gr G 11 1 x0).bind fun a23 =>
  (gr G 11 1 x0).bind fun a24 =>
  gchk (gIn (5 : Int32) (gn τ a24)) <|
  gchk (gIn (5 : Int32) (gn τ a23)) <| gLet (gse G a23 (Int32.toNatClampNeg (5 : Int32)) (gmin (9999 : Int32) ((ge G a24 (Int32.toNatClampNeg (5 : Int32))) + (1 : Int32)))) fun G25 =>
  some G25
def k_X11_oneSeason_52 (τ : gτ) (n : Nat) (x0 : Nat)  (G : gG) : Option (gG) :=
  (l_X11_oneSeason_54 τ n x0 (0 : Int32) G).bind fun q => gLet q fun G22 => 
  k_X11_oneSeason_116 τ n x0  G22
def k_X11_oneSeason_21 (τ : gτ) (n : Nat) (x0 : Nat) (s0 : Int32) (G : gG) : Option (gG) :=
  (l_X11_oneSeason_24 τ n x0 s0 (0 : Int32) G).bind fun q => gLet q fun G9 => 
  k_X11_oneSeason_52 τ n x0  G9
def f_X11_oneSeason (τ : gτ) (n : Nat) (x0 : Nat) (G : gG) : Option (gG) :=
  gBind2 (f_X11_draw τ x0 (100 : Int32) G) fun v1 G2 =>
  (gr G2 11 1 x0).bind fun a3 =>
  gchk (gIn (6 : Int32) (gn τ a3)) <|
  if (ge G2 a3 (Int32.toNatClampNeg (6 : Int32))) ≤ v1 then (k_X11_oneSeason_21 τ n x0 (0 : Int32) G2)
  else (k_X11_oneSeason_21 τ n x0 (1 : Int32) G2)
set_option maxHeartbeats 4000000 in
set_option maxRecDepth 100000 in
theorem w_b_X11_oneSeason_24 {X : gX} {τ : gτ} {p : Program} {l : Launch} {e : Env} {s : State} {m : MethodId} {args : Array Value} {below : List Frame} {meth : Method} {c : Code} (fx : gFx X p s m args meth c cX11_oneSeason 3 RX11) (n : Nat) (x0 : Nat) (x1 : Int32) (x2 : Int32) (h0 : gK τ x0 11) {Q : State → Prop} {K : ((Int32 × gG) ⊕ ((gG))) → Prop} {G : gG} {H : Heap} {locs : List Loc} {ls : Array Slot} (hw : gHw X τ G H locs) (hl : lv_has ls 3 [(0, .ref x0), (1, .int x1), (2, .int x2)]) (hok : gOk (b_X11_oneSeason_24 τ n x0 x1 x2 G) K) (hc : ∀ (y2 : Int32) (G : gG) (H : Heap) (locs : List Loc) (ls : Array Slot), gHw X τ G H locs → lv_has ls 3 [(0, .ref x0), (1, .int x1), (2, .int y2)] → K (.inl (y2, G)) → W p l e rm_X11_oneSeason s m args below meth c H locs 0 0 Q (F0 m 24 ls [])) (hx0 : ∀ (G : gG) (H : Heap) (locs : List Loc) (ls : Array Slot), gHw X τ G H locs → lv_has ls 3 [(0, .ref x0)] → K (.inr G) → W p l e rm_X11_oneSeason s m args below meth c H locs 0 0 Q (F0 m 52 ls [])) : W p l e rm_X11_oneSeason s m args below meth c H locs 0 0 Q (F0 m 24 ls []) := by
  unfold b_X11_oneSeason_24 at hok
  refine lv_iload_n fx.1 fx.2.1 dX11_oneSeason_24 rfl (lv_at hl 2 rfl) ?_
  refine lv_aload_n fx.1 fx.2.1 dX11_oneSeason_25 rfl (lv_at hl 0 rfl) ?_
  obtain ⟨v4, hf, hok⟩ := gOk_bind hok
  refine g_callV0 (κ := 11) fx hw (c_X11_ropes l X τ x0 G h0 hf) lv_RX11_73 ⟨rfl, rfl⟩ rfl rfl h0 rfl hl.1 rfl ⟨Nat.le_of_ble_eq_true rfl, Nat.le_of_ble_eq_true rfl⟩ (Nat.le_of_ble_eq_true rfl) ⟨Nat.le_of_ble_eq_true rfl, Nat.le_of_ble_eq_true rfl⟩ dX11_oneSeason_26 (fun H locs hw => ?_)
  refine g_icmp_ge (tgt := 52) fx dX11_oneSeason_29 (by decide) hok (fun hok => ?_) (fun hok => ?_)
  · exact hx0  G _ _ _  hw (lv_sub hl [0] rfl) (gOk_some hok)
  · refine lv_aload_n fx.1 fx.2.1 dX11_oneSeason_32 rfl (lv_at hl 0 rfl) ?_
    refine lv_iload_n fx.1 fx.2.1 dX11_oneSeason_33 rfl (lv_at hl 2 rfl) ?_
    obtain ⟨v5, hf, hok⟩ := gOk_bind hok
    refine g_callV0 (κ := 11) fx hw (c_X11_isWhole l X τ x0 x2 G h0 hf) lv_RX11_146 ⟨rfl, rfl⟩ rfl rfl h0 rfl hl.1 rfl ⟨Nat.le_of_ble_eq_true rfl, Nat.le_of_ble_eq_true rfl⟩ (Nat.le_of_ble_eq_true rfl) ⟨Nat.le_of_ble_eq_true rfl, Nat.le_of_ble_eq_true rfl⟩ dX11_oneSeason_34 (fun H locs hw => ?_)
    refine g_if_eq (tgt := 46) fx dX11_oneSeason_37 (by decide) hok (fun hok => ?_) (fun hok => ?_)
    · obtain ⟨v6, e_v6, hok⟩ := gOk_let hok
      refine lv_iinc (v := v6) (lv' := [(2, .int v6), (0, .ref x0), (1, .int x1)]) fx.1 fx.2.1 dX11_oneSeason_46 hl (k := 2) rfl (by rw [e_v6]; rfl) (by decide) rfl (fun ls hl => ?_)
      refine lv_goto (tgt := 24) fx.1 fx.2.1 dX11_oneSeason_49 (by decide) ?_
      exact hc v6 G _ _ _  hw (lv_sub hl [1, 2, 0] rfl) (gOk_some hok)
    · refine lv_aload_n fx.1 fx.2.1 dX11_oneSeason_40 rfl (lv_at hl 0 rfl) ?_
      refine lv_iload_n fx.1 fx.2.1 dX11_oneSeason_41 rfl (lv_at hl 2 rfl) ?_
      refine lv_iload_n fx.1 fx.2.1 dX11_oneSeason_42 rfl (lv_at hl 1 rfl) ?_
      obtain ⟨G7, hf, hok⟩ := gOk_bind hok
      refine g_callV0 (κ := 11) fx hw (c_X11_goesOn l X τ n x0 x2 x1 G h0 hf) lv_RX11_368 ⟨rfl, rfl⟩ rfl rfl h0 rfl hl.1 rfl ⟨Nat.le_of_ble_eq_true rfl, Nat.le_of_ble_eq_true rfl⟩ (Nat.le_of_ble_eq_true rfl) ⟨Nat.le_of_ble_eq_true rfl, Nat.le_of_ble_eq_true rfl⟩ dX11_oneSeason_43 (fun H locs hw => ?_)
      obtain ⟨v8, e_v8, hok⟩ := gOk_let hok
      refine lv_iinc (v := v8) (lv' := [(2, .int v8), (0, .ref x0), (1, .int x1)]) fx.1 fx.2.1 dX11_oneSeason_46 hl (k := 2) rfl (by rw [e_v8]; rfl) (by decide) rfl (fun ls hl => ?_)
      refine lv_goto (tgt := 24) fx.1 fx.2.1 dX11_oneSeason_49 (by decide) ?_
      exact hc v8 G7 _ _ _  hw (lv_sub hl [1, 2, 0] rfl) (gOk_some hok)
theorem w_l_X11_oneSeason_24 {X : gX} {τ : gτ} {p : Program} {l : Launch} {e : Env} {s : State} {m : MethodId} {args : Array Value} {below : List Frame} {meth : Method} {c : Code} (fx : gFx X p s m args meth c cX11_oneSeason 3 RX11) (n : Nat) (x0 : Nat) (x1 : Int32) (h0 : gK τ x0 11) {Q : State → Prop} {K : ((gG)) → Prop} (hx0 : ∀ (G : gG) (H : Heap) (locs : List Loc) (ls : Array Slot), gHw X τ G H locs → lv_has ls 3 [(0, .ref x0)] → K G → W p l e rm_X11_oneSeason s m args below meth c H locs 0 0 Q (F0 m 52 ls [])) : ∀ (k : Nat) (x2 : Int32) (G : gG) (H : Heap) (locs : List Loc) (ls : Array Slot), gHw X τ G H locs → lv_has ls 3 [(0, .ref x0), (1, .int x1), (2, .int x2)] → gOk (gIter (fun (q : Int32 × gG) => b_X11_oneSeason_24 τ n x0 x1 q.1 q.2) k (x2, G)) K → W p l e rm_X11_oneSeason s m args below meth c H locs 0 0 Q (F0 m 24 ls []) := by
  intro k
  induction k with
  | zero =>
    intro x2 G H locs ls hw hl hok
    exact gOk_iter0 hok
  | succ k hc =>
    intro x2 G H locs ls hw hl hok
    exact w_b_X11_oneSeason_24 fx n x0 x1 x2 h0 hw hl (gOk_iter hok) hc hx0
set_option maxHeartbeats 4000000 in
set_option maxRecDepth 100000 in
theorem w_b_X11_oneSeason_54 {X : gX} {τ : gτ} {p : Program} {l : Launch} {e : Env} {s : State} {m : MethodId} {args : Array Value} {below : List Frame} {meth : Method} {c : Code} (fx : gFx X p s m args meth c cX11_oneSeason 3 RX11) (n : Nat) (x0 : Nat) (x2 : Int32) (h0 : gK τ x0 11) {Q : State → Prop} {K : ((Int32 × gG) ⊕ ((gG))) → Prop} {G : gG} {H : Heap} {locs : List Loc} {ls : Array Slot} (hw : gHw X τ G H locs) (hl : lv_has ls 3 [(0, .ref x0), (2, .int x2)]) (hok : gOk (b_X11_oneSeason_54 τ n x0 x2 G) K) (hc : ∀ (y2 : Int32) (G : gG) (H : Heap) (locs : List Loc) (ls : Array Slot), gHw X τ G H locs → lv_has ls 3 [(0, .ref x0), (2, .int y2)] → K (.inl (y2, G)) → W p l e rm_X11_oneSeason s m args below meth c H locs 0 0 Q (F0 m 54 ls [])) (hx0 : ∀ (G : gG) (H : Heap) (locs : List Loc) (ls : Array Slot), gHw X τ G H locs → lv_has ls 3 [(0, .ref x0)] → K (.inr G) → W p l e rm_X11_oneSeason s m args below meth c H locs 0 0 Q (F0 m 116 ls [])) : W p l e rm_X11_oneSeason s m args below meth c H locs 0 0 Q (F0 m 54 ls []) := by
  unfold b_X11_oneSeason_54 at hok
  refine lv_iload_n fx.1 fx.2.1 dX11_oneSeason_54 rfl (lv_at hl 1 rfl) ?_
  refine lv_aload_n fx.1 fx.2.1 dX11_oneSeason_55 rfl (lv_at hl 0 rfl) ?_
  obtain ⟨v10, hf, hok⟩ := gOk_bind hok
  refine g_callV0 (κ := 11) fx hw (c_X11_yarns l X τ x0 G h0 hf) lv_RX11_65 ⟨rfl, rfl⟩ rfl rfl h0 rfl hl.1 rfl ⟨Nat.le_of_ble_eq_true rfl, Nat.le_of_ble_eq_true rfl⟩ (Nat.le_of_ble_eq_true rfl) ⟨Nat.le_of_ble_eq_true rfl, Nat.le_of_ble_eq_true rfl⟩ dX11_oneSeason_56 (fun H locs hw => ?_)
  refine g_icmp_ge (tgt := 116) fx dX11_oneSeason_59 (by decide) hok (fun hok => ?_) (fun hok => ?_)
  · exact hx0  G _ _ _  hw (lv_sub hl [0] rfl) (gOk_some hok)
  · refine lv_aload_n fx.1 fx.2.1 dX11_oneSeason_62 rfl (lv_at hl 0 rfl) ?_
    refine lv_iload_n fx.1 fx.2.1 dX11_oneSeason_63 rfl (lv_at hl 1 rfl) ?_
    refine lv_iconst (v := 1) fx.1 fx.2.1 dX11_oneSeason_64 (by decide) ?_
    obtain ⟨v11, hf, hok⟩ := gOk_bind hok
    refine g_callV0 (κ := 11) fx hw (c_X11_ofYarn l X τ x0 x2 (1 : Int32) G h0 hf) lv_RX11_132 ⟨rfl, rfl⟩ rfl rfl h0 rfl hl.1 rfl ⟨Nat.le_of_ble_eq_true rfl, Nat.le_of_ble_eq_true rfl⟩ (Nat.le_of_ble_eq_true rfl) ⟨Nat.le_of_ble_eq_true rfl, Nat.le_of_ble_eq_true rfl⟩ dX11_oneSeason_65 (fun H locs hw => ?_)
    refine g_if_le (tgt := 110) fx dX11_oneSeason_68 (by decide) hok (fun hok => ?_) (fun hok => ?_)
    · obtain ⟨v12, e_v12, hok⟩ := gOk_let hok
      refine lv_iinc (v := v12) (lv' := [(2, .int v12), (0, .ref x0)]) fx.1 fx.2.1 dX11_oneSeason_110 hl (k := 1) rfl (by rw [e_v12]; rfl) (by decide) rfl (fun ls hl => ?_)
      refine lv_goto (tgt := 54) fx.1 fx.2.1 dX11_oneSeason_113 (by decide) ?_
      exact hc v12 G _ _ _  hw (lv_sub hl [1, 0] rfl) (gOk_some hok)
    · refine lv_aload_n fx.1 fx.2.1 dX11_oneSeason_71 rfl (lv_at hl 0 rfl) ?_
      refine lv_bipush (v := 100) fx.1 fx.2.1 dX11_oneSeason_72 (by decide) ?_
      obtain ⟨v13, G14, hf, hok⟩ := gOk_bind2 hok
      refine g_callV0 (κ := 11) fx hw (c_X11_draw l X τ x0 (100 : Int32) G h0 hf) lv_RX11_365 ⟨rfl, rfl⟩ rfl rfl h0 rfl hl.1 rfl ⟨Nat.le_of_ble_eq_true rfl, Nat.le_of_ble_eq_true rfl⟩ (Nat.le_of_ble_eq_true rfl) ⟨Nat.le_of_ble_eq_true rfl, Nat.le_of_ble_eq_true rfl⟩ dX11_oneSeason_74 (fun H locs hw => ?_)
      refine lv_aload_n fx.1 fx.2.1 dX11_oneSeason_77 rfl (lv_at hl 0 rfl) ?_
      refine g_getr fx hw h0 lf_RX11_13 rfl dX11_oneSeason_78 hok (fun a15 h_a15 hok => ?_)
      refine lv_bipush (v := 7) fx.1 fx.2.1 dX11_oneSeason_81 (by decide) ?_
      refine g_iald fx hw h_a15 dX11_oneSeason_83 hok (fun hok => ?_)
      refine g_icmp_ge (tgt := 110) fx dX11_oneSeason_84 (by decide) hok (fun hok => ?_) (fun hok => ?_)
      · obtain ⟨v16, e_v16, hok⟩ := gOk_let hok
        refine lv_iinc (v := v16) (lv' := [(2, .int v16), (0, .ref x0)]) fx.1 fx.2.1 dX11_oneSeason_110 hl (k := 1) rfl (by rw [e_v16]; rfl) (by decide) rfl (fun ls hl => ?_)
        refine lv_goto (tgt := 54) fx.1 fx.2.1 dX11_oneSeason_113 (by decide) ?_
        exact hc v16 G14 _ _ _  hw (lv_sub hl [1, 0] rfl) (gOk_some hok)
      · refine lv_aload_n fx.1 fx.2.1 dX11_oneSeason_87 rfl (lv_at hl 0 rfl) ?_
        refine g_getr fx hw h0 lf_RX11_13 rfl dX11_oneSeason_88 hok (fun a17 h_a17 hok => ?_)
        refine lv_iload_n fx.1 fx.2.1 dX11_oneSeason_91 rfl (lv_at hl 1 rfl) ?_
        refine lv_iconst (v := 2) fx.1 fx.2.1 dX11_oneSeason_92 (by decide) ?_
        obtain ⟨v18, hf, hok⟩ := gOk_bind hok
        refine g_callS0 fx hw (c_X11_yarnAt l X τ x2 (2 : Int32) G14  hf) ls_RX11_55 ⟨rfl, rfl⟩ rfl hl.1 rfl ⟨Nat.le_of_ble_eq_true rfl, Nat.le_of_ble_eq_true rfl⟩ (Nat.le_of_ble_eq_true rfl) ⟨Nat.le_of_ble_eq_true rfl, Nat.le_of_ble_eq_true rfl⟩ dX11_oneSeason_93 (fun H locs hw => ?_)
        refine lv_bipush (v := 9) fx.1 fx.2.1 dX11_oneSeason_96 (by decide) ?_
        refine lv_aload_n fx.1 fx.2.1 dX11_oneSeason_98 rfl (lv_at hl 0 rfl) ?_
        refine lv_iload_n fx.1 fx.2.1 dX11_oneSeason_99 rfl (lv_at hl 1 rfl) ?_
        refine lv_iconst (v := 2) fx.1 fx.2.1 dX11_oneSeason_100 (by decide) ?_
        obtain ⟨v19, hf, hok⟩ := gOk_bind hok
        refine g_callV0 (κ := 11) fx hw (c_X11_ofYarn l X τ x0 x2 (2 : Int32) G14 h0 hf) lv_RX11_132 ⟨rfl, rfl⟩ rfl rfl h0 rfl hl.1 rfl ⟨Nat.le_of_ble_eq_true rfl, Nat.le_of_ble_eq_true rfl⟩ (Nat.le_of_ble_eq_true rfl) ⟨Nat.le_of_ble_eq_true rfl, Nat.le_of_ble_eq_true rfl⟩ dX11_oneSeason_101 (fun H locs hw => ?_)
        refine lv_iconst (v := 1) fx.1 fx.2.1 dX11_oneSeason_104 (by decide) ?_
        refine lv_iadd fx.1 fx.2.1 dX11_oneSeason_105 ?_
        refine g_mmin fx hl.1 lm_RX11_135 lmst_min lm_init lmco_min ⟨Nat.le_of_ble_eq_true rfl, Nat.le_of_ble_eq_true rfl, Nat.le_of_ble_eq_true rfl, Nat.le_of_ble_eq_true rfl⟩ dX11_oneSeason_106 ?_
        refine g_iast fx hw h_a17 dX11_oneSeason_109 hok (fun G20 H locs hw hok => ?_)
        obtain ⟨v21, e_v21, hok⟩ := gOk_let hok
        refine lv_iinc (v := v21) (lv' := [(2, .int v21), (0, .ref x0)]) fx.1 fx.2.1 dX11_oneSeason_110 hl (k := 1) rfl (by rw [e_v21]; rfl) (by decide) rfl (fun ls hl => ?_)
        refine lv_goto (tgt := 54) fx.1 fx.2.1 dX11_oneSeason_113 (by decide) ?_
        exact hc v21 G20 _ _ _  hw (lv_sub hl [1, 0] rfl) (gOk_some hok)
theorem w_l_X11_oneSeason_54 {X : gX} {τ : gτ} {p : Program} {l : Launch} {e : Env} {s : State} {m : MethodId} {args : Array Value} {below : List Frame} {meth : Method} {c : Code} (fx : gFx X p s m args meth c cX11_oneSeason 3 RX11) (n : Nat) (x0 : Nat) (h0 : gK τ x0 11) {Q : State → Prop} {K : ((gG)) → Prop} (hx0 : ∀ (G : gG) (H : Heap) (locs : List Loc) (ls : Array Slot), gHw X τ G H locs → lv_has ls 3 [(0, .ref x0)] → K G → W p l e rm_X11_oneSeason s m args below meth c H locs 0 0 Q (F0 m 116 ls [])) : ∀ (k : Nat) (x2 : Int32) (G : gG) (H : Heap) (locs : List Loc) (ls : Array Slot), gHw X τ G H locs → lv_has ls 3 [(0, .ref x0), (2, .int x2)] → gOk (gIter (fun (q : Int32 × gG) => b_X11_oneSeason_54 τ n x0 q.1 q.2) k (x2, G)) K → W p l e rm_X11_oneSeason s m args below meth c H locs 0 0 Q (F0 m 54 ls []) := by
  intro k
  induction k with
  | zero =>
    intro x2 G H locs ls hw hl hok
    exact gOk_iter0 hok
  | succ k hc =>
    intro x2 G H locs ls hw hl hok
    exact w_b_X11_oneSeason_54 fx n x0 x2 h0 hw hl (gOk_iter hok) hc hx0
set_option maxHeartbeats 4000000 in
set_option maxRecDepth 100000 in
theorem w_X11_oneSeason_116 {X : gX} {τ : gτ} {p : Program} {l : Launch} {e : Env} {s : State} {m : MethodId} {args : Array Value} {below : List Frame} {meth : Method} {c : Code} (fx : gFx X p s m args meth c cX11_oneSeason 3 RX11) (n : Nat) (x0 : Nat)  (h0 : gK τ x0 11)  (hr : meth.sig.returnType = none) {G' : gG} {G : gG} {H : Heap} {locs : List Loc} {ls : Array Slot} (hw : gHw X τ G H locs) (hl : lv_has ls 3 [(0, .ref x0)]) (hok : gOk (k_X11_oneSeason_116 τ n x0  G) (fun q => q = G'))  : W p l e rm_X11_oneSeason s m args below meth c H locs 0 0 (MQ below (gQ X τ none G') args s 0 0 (gFree X)) (F0 m 116 ls []) := by
  unfold k_X11_oneSeason_116 at hok
  refine lv_aload_n fx.1 fx.2.1 dX11_oneSeason_116 rfl (lv_at hl 0 rfl) ?_
  refine g_getr fx hw h0 lf_RX11_13 rfl dX11_oneSeason_117 hok (fun a23 h_a23 hok => ?_)
  refine lv_iconst (v := 5) fx.1 fx.2.1 dX11_oneSeason_120 (by decide) ?_
  refine lv_sipush (v := 9999) fx.1 fx.2.1 dX11_oneSeason_121 (by decide) ?_
  refine lv_aload_n fx.1 fx.2.1 dX11_oneSeason_124 rfl (lv_at hl 0 rfl) ?_
  refine g_getr fx hw h0 lf_RX11_13 rfl dX11_oneSeason_125 hok (fun a24 h_a24 hok => ?_)
  refine lv_iconst (v := 5) fx.1 fx.2.1 dX11_oneSeason_128 (by decide) ?_
  refine g_iald fx hw h_a24 dX11_oneSeason_129 hok (fun hok => ?_)
  refine lv_iconst (v := 1) fx.1 fx.2.1 dX11_oneSeason_130 (by decide) ?_
  refine lv_iadd fx.1 fx.2.1 dX11_oneSeason_131 ?_
  refine g_mmin fx hl.1 lm_RX11_135 lmst_min lm_init lmco_min ⟨Nat.le_of_ble_eq_true rfl, Nat.le_of_ble_eq_true rfl, Nat.le_of_ble_eq_true rfl, Nat.le_of_ble_eq_true rfl⟩ dX11_oneSeason_132 ?_
  refine g_iast fx hw h_a23 dX11_oneSeason_135 hok (fun G25 H locs hw hok => ?_)
  cases gOk_some hok
  exact g_vret fx hw hr dX11_oneSeason_136
set_option maxHeartbeats 4000000 in
set_option maxRecDepth 100000 in
theorem w_X11_oneSeason_52 {X : gX} {τ : gτ} {p : Program} {l : Launch} {e : Env} {s : State} {m : MethodId} {args : Array Value} {below : List Frame} {meth : Method} {c : Code} (fx : gFx X p s m args meth c cX11_oneSeason 3 RX11) (n : Nat) (x0 : Nat)  (h0 : gK τ x0 11)  (hr : meth.sig.returnType = none) {G' : gG} {G : gG} {H : Heap} {locs : List Loc} {ls : Array Slot} (hw : gHw X τ G H locs) (hl : lv_has ls 3 [(0, .ref x0)]) (hok : gOk (k_X11_oneSeason_52 τ n x0  G) (fun q => q = G'))  : W p l e rm_X11_oneSeason s m args below meth c H locs 0 0 (MQ below (gQ X τ none G') args s 0 0 (gFree X)) (F0 m 52 ls []) := by
  unfold k_X11_oneSeason_52 at hok
  refine lv_iconst (v := 0) fx.1 fx.2.1 dX11_oneSeason_52 (by decide) ?_
  refine lv_istore_n (lv' := [(2, .int (0 : Int32)), (0, .ref x0)]) fx.1 fx.2.1 dX11_oneSeason_53 rfl hl (by decide) rfl (fun ls hl => ?_)
  refine w_l_X11_oneSeason_54 fx n x0 h0 ?_ n (0 : Int32) G _ _ _  hw (lv_sub hl [1, 0] rfl) (gOk_bindK hok)
  intro G22 H locs ls hw hl hok
  have hok : gOk (ρ := gG) (k_X11_oneSeason_116 τ n x0  G22) _ := hok
  exact w_X11_oneSeason_116 fx n x0  h0  hr hw (lv_sub hl [0] rfl) hok
set_option maxHeartbeats 4000000 in
set_option maxRecDepth 100000 in
theorem w_X11_oneSeason_21 {X : gX} {τ : gτ} {p : Program} {l : Launch} {e : Env} {s : State} {m : MethodId} {args : Array Value} {below : List Frame} {meth : Method} {c : Code} (fx : gFx X p s m args meth c cX11_oneSeason 3 RX11) (n : Nat) (x0 : Nat) (s0 : Int32) (h0 : gK τ x0 11)  (hr : meth.sig.returnType = none) {G' : gG} {G : gG} {H : Heap} {locs : List Loc} {ls : Array Slot} (hw : gHw X τ G H locs) (hl : lv_has ls 3 [(0, .ref x0)]) (hok : gOk (k_X11_oneSeason_21 τ n x0 s0 G) (fun q => q = G'))  : W p l e rm_X11_oneSeason s m args below meth c H locs 0 0 (MQ below (gQ X τ none G') args s 0 0 (gFree X)) (F0 m 21 ls [.int s0]) := by
  unfold k_X11_oneSeason_21 at hok
  refine lv_istore_n (lv' := [(1, .int s0), (0, .ref x0)]) fx.1 fx.2.1 dX11_oneSeason_21 rfl hl (by decide) rfl (fun ls hl => ?_)
  refine lv_iconst (v := 0) fx.1 fx.2.1 dX11_oneSeason_22 (by decide) ?_
  refine lv_istore_n (lv' := [(2, .int (0 : Int32)), (1, .int s0), (0, .ref x0)]) fx.1 fx.2.1 dX11_oneSeason_23 rfl hl (by decide) rfl (fun ls hl => ?_)
  refine w_l_X11_oneSeason_24 fx n x0 s0 h0 ?_ n (0 : Int32) G _ _ _  hw (lv_sub hl [2, 1, 0] rfl) (gOk_bindK hok)
  intro G9 H locs ls hw hl hok
  have hok : gOk (ρ := gG) (k_X11_oneSeason_52 τ n x0  G9) _ := hok
  exact w_X11_oneSeason_52 fx n x0  h0  hr hw (lv_sub hl [0] rfl) hok
set_option maxHeartbeats 4000000 in
set_option maxRecDepth 100000 in
theorem c_X11_oneSeason (l : Launch) (X : gX) (τ : gτ) (n : Nat) (x0 : Nat) (G : gG) (h0 : gK τ x0 11) {G' : gG} (h : f_X11_oneSeason τ n x0 G = some G') : gM l X τ yX11_oneSeason cX11_oneSeason 3 none rm_X11_oneSeason [.ref x0] G none G' := by
  refine g_body (by decide +kernel) (Nat.le_of_ble_eq_true rfl) ?_
  intro p e s m args below meth c ls fx hr hw hl
  have fx : gFx X p s m args meth c cX11_oneSeason 3 RX11 := fx
  have hl : lv_has ls 3 [(0, .ref x0)] := hl
  have hok : gOk (f_X11_oneSeason τ n x0 G) (fun q => q = G') := ⟨_, h, rfl⟩
  unfold f_X11_oneSeason at hok
  show W p l e rm_X11_oneSeason s m args below meth c s.heap [] 0 0 (MQ below (gQ X τ none G') args s 0 0 (gFree X)) _
  refine lv_aload_n fx.1 fx.2.1 dX11_oneSeason_0 rfl (lv_at hl 0 rfl) ?_
  refine lv_bipush (v := 100) fx.1 fx.2.1 dX11_oneSeason_1 (by decide) ?_
  obtain ⟨v1, G2, hf, hok⟩ := gOk_bind2 hok
  refine g_callV0 (κ := 11) fx hw (c_X11_draw l X τ x0 (100 : Int32) G h0 hf) lv_RX11_365 ⟨rfl, rfl⟩ rfl rfl h0 rfl hl.1 rfl ⟨Nat.le_of_ble_eq_true rfl, Nat.le_of_ble_eq_true rfl⟩ (Nat.le_of_ble_eq_true rfl) ⟨Nat.le_of_ble_eq_true rfl, Nat.le_of_ble_eq_true rfl⟩ dX11_oneSeason_3 (fun H locs hw => ?_)
  refine lv_aload_n fx.1 fx.2.1 dX11_oneSeason_6 rfl (lv_at hl 0 rfl) ?_
  refine g_getr fx hw h0 lf_RX11_13 rfl dX11_oneSeason_7 hok (fun a3 h_a3 hok => ?_)
  refine lv_bipush (v := 6) fx.1 fx.2.1 dX11_oneSeason_10 (by decide) ?_
  refine g_iald fx hw h_a3 dX11_oneSeason_12 hok (fun hok => ?_)
  refine g_icmp_ge (tgt := 20) fx dX11_oneSeason_13 (by decide) hok (fun hok => ?_) (fun hok => ?_)
  · refine lv_iconst (v := 0) fx.1 fx.2.1 dX11_oneSeason_20 (by decide) ?_
    exact w_X11_oneSeason_21 fx n x0 (0 : Int32) h0  hr hw (lv_sub hl [0] rfl) hok
  · refine lv_iconst (v := 1) fx.1 fx.2.1 dX11_oneSeason_16 (by decide) ?_
    refine lv_goto (tgt := 21) fx.1 fx.2.1 dX11_oneSeason_17 (by decide) ?_
    exact w_X11_oneSeason_21 fx n x0 (1 : Int32) h0  hr hw (lv_sub hl [0] rfl) hok
theorem dX11_seasons_0 : decode cX11_seasons 0 = .ok (.aload_n 0, 1) := by decide +kernel
theorem dX11_seasons_1 : decode cX11_seasons 1 = .ok (.iconst 0, 1) := by decide +kernel
theorem dX11_seasons_2 : decode cX11_seasons 2 = .ok (.putfield 3, 3) := by decide +kernel
theorem dX11_seasons_5 : decode cX11_seasons 5 = .ok (.aload_n 0, 1) := by decide +kernel
theorem dX11_seasons_6 : decode cX11_seasons 6 = .ok (.iload_n 1, 1) := by decide +kernel
theorem dX11_seasons_7 : decode cX11_seasons 7 = .ok (.iconst 1, 1) := by decide +kernel
theorem dX11_seasons_8 : decode cX11_seasons 8 = .ok (.bipush 50, 2) := by decide +kernel
theorem dX11_seasons_10 : decode cX11_seasons 10 = .ok (.invokestatic 69, 3) := by decide +kernel
theorem dX11_seasons_13 : decode cX11_seasons 13 = .ok (.ifCond .ne 7, 3) := by decide +kernel
theorem dX11_seasons_16 : decode cX11_seasons 16 = .ok (.iconst 1, 1) := by decide +kernel
theorem dX11_seasons_17 : decode cX11_seasons 17 = .ok (.goto 4, 3) := by decide +kernel
theorem dX11_seasons_20 : decode cX11_seasons 20 = .ok (.iconst 0, 1) := by decide +kernel
theorem dX11_seasons_21 : decode cX11_seasons 21 = .ok (.iconst 1, 1) := by decide +kernel
theorem dX11_seasons_22 : decode cX11_seasons 22 = .ok (.invokevirtual 263, 3) := by decide +kernel
theorem dX11_seasons_25 : decode cX11_seasons 25 = .ok (.ifCond .eq 5, 3) := by decide +kernel
theorem dX11_seasons_28 : decode cX11_seasons 28 = .ok (.iconst 0, 1) := by decide +kernel
theorem dX11_seasons_29 : decode cX11_seasons 29 = .ok (.ireturn, 1) := by decide +kernel
theorem dX11_seasons_30 : decode cX11_seasons 30 = .ok (.aload_n 0, 1) := by decide +kernel
theorem dX11_seasons_31 : decode cX11_seasons 31 = .ok (.invokevirtual 346, 3) := by decide +kernel
theorem dX11_seasons_34 : decode cX11_seasons 34 = .ok (.aload_n 0, 1) := by decide +kernel
theorem dX11_seasons_35 : decode cX11_seasons 35 = .ok (.getfield 13, 3) := by decide +kernel
theorem dX11_seasons_38 : decode cX11_seasons 38 = .ok (.bipush 9, 2) := by decide +kernel
theorem dX11_seasons_40 : decode cX11_seasons 40 = .ok (.iaload, 1) := by decide +kernel
theorem dX11_seasons_41 : decode cX11_seasons 41 = .ok (.istore_n 2, 1) := by decide +kernel
theorem dX11_seasons_42 : decode cX11_seasons 42 = .ok (.iconst 0, 1) := by decide +kernel
theorem dX11_seasons_43 : decode cX11_seasons 43 = .ok (.istore_n 3, 1) := by decide +kernel
theorem dX11_seasons_44 : decode cX11_seasons 44 = .ok (.iload_n 3, 1) := by decide +kernel
theorem dX11_seasons_45 : decode cX11_seasons 45 = .ok (.iload_n 1, 1) := by decide +kernel
theorem dX11_seasons_46 : decode cX11_seasons 46 = .ok (.if_icmp .ge 13, 3) := by decide +kernel
theorem dX11_seasons_49 : decode cX11_seasons 49 = .ok (.aload_n 0, 1) := by decide +kernel
theorem dX11_seasons_50 : decode cX11_seasons 50 = .ok (.invokevirtual 372, 3) := by decide +kernel
theorem dX11_seasons_53 : decode cX11_seasons 53 = .ok (.iinc 3 1, 3) := by decide +kernel
theorem dX11_seasons_56 : decode cX11_seasons 56 = .ok (.goto (-12), 3) := by decide +kernel
theorem dX11_seasons_59 : decode cX11_seasons 59 = .ok (.aload_n 0, 1) := by decide +kernel
theorem dX11_seasons_60 : decode cX11_seasons 60 = .ok (.getfield 13, 3) := by decide +kernel
theorem dX11_seasons_63 : decode cX11_seasons 63 = .ok (.bipush 9, 2) := by decide +kernel
theorem dX11_seasons_65 : decode cX11_seasons 65 = .ok (.iaload, 1) := by decide +kernel
theorem dX11_seasons_66 : decode cX11_seasons 66 = .ok (.iload_n 2, 1) := by decide +kernel
theorem dX11_seasons_67 : decode cX11_seasons 67 = .ok (.isub, 1) := by decide +kernel
theorem dX11_seasons_68 : decode cX11_seasons 68 = .ok (.ireturn, 1) := by decide +kernel
theorem lv_RX11_372 : gLv RX11 372 RX11 yX11_oneSeason cX11_oneSeason 3 none 0 := gLv_of (wA_t (wt8 (List.mem_of_getElem? (i := 165) (by decide +kernel))) (by decide +kernel)) (wA_t (wt8 (List.mem_of_getElem? (i := 167) (by decide +kernel))) (by decide +kernel)) (wA_of (List.mem_append_left _ (List.mem_map.mpr ⟨(⟨"YearRopeModel", "oneSeason", "()V"⟩, 20), wp7 (List.mem_of_getElem? (i := 6) (by decide +kernel)), rfl⟩)) (by decide +kernel)) (wA_t (wt1 (List.mem_of_getElem? (i := 12) (by decide +kernel))) (by decide +kernel)) (wA_t (wt8 (List.mem_of_getElem? (i := 168) (by decide +kernel))) (by decide +kernel)) ⟨rfl, by decide +kernel, by decide +kernel, by decide +kernel⟩
def rm_X11_seasons : Room := { frames := 10, cells := 0, slots := 0, locals := 229 }
def b_X11_seasons_44 (τ : gτ) (n : Nat) (x0 : Nat) (x1 : Int32) (x2 : Int32) (x3 : Int32) (G : gG) : Option ((Int32 × gG) ⊕ ((gG))) :=
  if x1 ≤ x3 then (some (.inr G))
  else ((f_X11_oneSeason τ n x0 G).bind fun G8 =>
  gLet (x3 + 1) fun v9 =>
  some (.inl (v9, G8)))
def l_X11_seasons_44 (τ : gτ) (n : Nat) (x0 : Nat) (x1 : Int32) (x2 : Int32) (x3 : Int32) (G : gG) : Option ((gG)) :=
  gIter (fun (q : Int32 × gG) => b_X11_seasons_44 τ n x0 x1 x2 q.1 q.2) n (x3, G)
def k_X11_seasons_59 (τ : gτ) (n : Nat) (x0 : Nat) (x2 : Int32)  (G : gG) : Option (Int32 × gG) :=
  (gr G 11 1 x0).bind fun a11 =>
  gchk (gIn (9 : Int32) (gn τ a11)) <|
  some ((ge G a11 (Int32.toNatClampNeg (9 : Int32))) - x2, G)
def k_X11_seasons_21 (τ : gτ) (n : Nat) (x0 : Nat) (x1 : Int32) (s0 : Nat) (s1 : Int32) (G : gG) : Option (Int32 × gG) :=
  gBind2 (f_X11_throwsIf s0 s1 (1 : Int32) G) fun v3 G4 =>
  if v3 = 0 then ((f_X11_remembers τ n x0 G4).bind fun G5 =>
  (gr G5 11 1 x0).bind fun a6 =>
  gchk (gIn (9 : Int32) (gn τ a6)) <|
  gLet (ge G5 a6 (Int32.toNatClampNeg (9 : Int32))) fun v7 =>
  (l_X11_seasons_44 τ n x0 x1 v7 (0 : Int32) G5).bind fun q => gLet q fun G10 => 
  k_X11_seasons_59 τ n x0 v7  G10)
  else (some (0, G4))
def f_X11_seasons (τ : gτ) (n : Nat) (x0 : Nat) (x1 : Int32) (G : gG) : Option (Int32 × gG) :=
  gLet (gsi G 11 0 x0 (0 : Int32)) fun G1 =>
  (f_X11_in x1 (1 : Int32) (50 : Int32)).bind fun v2 =>
  if v2 = 0 then (k_X11_seasons_21 τ n x0 x1 x0 (1 : Int32) G1)
  else (k_X11_seasons_21 τ n x0 x1 x0 (0 : Int32) G1)
set_option maxHeartbeats 4000000 in
set_option maxRecDepth 100000 in
theorem w_b_X11_seasons_44 {X : gX} {τ : gτ} {p : Program} {l : Launch} {e : Env} {s : State} {m : MethodId} {args : Array Value} {below : List Frame} {meth : Method} {c : Code} (fx : gFx X p s m args meth c cX11_seasons 4 RX11) (n : Nat) (x0 : Nat) (x1 : Int32) (x2 : Int32) (x3 : Int32) (h0 : gK τ x0 11) {Q : State → Prop} {K : ((Int32 × gG) ⊕ ((gG))) → Prop} {G : gG} {H : Heap} {locs : List Loc} {ls : Array Slot} (hw : gHw X τ G H locs) (hl : lv_has ls 4 [(0, .ref x0), (1, .int x1), (2, .int x2), (3, .int x3)]) (hok : gOk (b_X11_seasons_44 τ n x0 x1 x2 x3 G) K) (hc : ∀ (y3 : Int32) (G : gG) (H : Heap) (locs : List Loc) (ls : Array Slot), gHw X τ G H locs → lv_has ls 4 [(0, .ref x0), (1, .int x1), (2, .int x2), (3, .int y3)] → K (.inl (y3, G)) → W p l e rm_X11_seasons s m args below meth c H locs 0 0 Q (F0 m 44 ls [])) (hx0 : ∀ (G : gG) (H : Heap) (locs : List Loc) (ls : Array Slot), gHw X τ G H locs → lv_has ls 4 [(0, .ref x0), (2, .int x2)] → K (.inr G) → W p l e rm_X11_seasons s m args below meth c H locs 0 0 Q (F0 m 59 ls [])) : W p l e rm_X11_seasons s m args below meth c H locs 0 0 Q (F0 m 44 ls []) := by
  unfold b_X11_seasons_44 at hok
  refine lv_iload_n fx.1 fx.2.1 dX11_seasons_44 rfl (lv_at hl 3 rfl) ?_
  refine lv_iload_n fx.1 fx.2.1 dX11_seasons_45 rfl (lv_at hl 1 rfl) ?_
  refine g_icmp_ge (tgt := 59) fx dX11_seasons_46 (by decide) hok (fun hok => ?_) (fun hok => ?_)
  · exact hx0  G _ _ _  hw (lv_sub hl [0, 2] rfl) (gOk_some hok)
  · refine lv_aload_n fx.1 fx.2.1 dX11_seasons_49 rfl (lv_at hl 0 rfl) ?_
    obtain ⟨G8, hf, hok⟩ := gOk_bind hok
    refine g_callV0 (κ := 11) fx hw (c_X11_oneSeason l X τ n x0 G h0 hf) lv_RX11_372 ⟨rfl, rfl⟩ rfl rfl h0 rfl hl.1 rfl ⟨Nat.le_of_ble_eq_true rfl, Nat.le_of_ble_eq_true rfl⟩ (Nat.le_of_ble_eq_true rfl) ⟨Nat.le_of_ble_eq_true rfl, Nat.le_of_ble_eq_true rfl⟩ dX11_seasons_50 (fun H locs hw => ?_)
    obtain ⟨v9, e_v9, hok⟩ := gOk_let hok
    refine lv_iinc (v := v9) (lv' := [(3, .int v9), (0, .ref x0), (1, .int x1), (2, .int x2)]) fx.1 fx.2.1 dX11_seasons_53 hl (k := 3) rfl (by rw [e_v9]; rfl) (by decide) rfl (fun ls hl => ?_)
    refine lv_goto (tgt := 44) fx.1 fx.2.1 dX11_seasons_56 (by decide) ?_
    exact hc v9 G8 _ _ _  hw (lv_sub hl [1, 2, 3, 0] rfl) (gOk_some hok)
theorem w_l_X11_seasons_44 {X : gX} {τ : gτ} {p : Program} {l : Launch} {e : Env} {s : State} {m : MethodId} {args : Array Value} {below : List Frame} {meth : Method} {c : Code} (fx : gFx X p s m args meth c cX11_seasons 4 RX11) (n : Nat) (x0 : Nat) (x1 : Int32) (x2 : Int32) (h0 : gK τ x0 11) {Q : State → Prop} {K : ((gG)) → Prop} (hx0 : ∀ (G : gG) (H : Heap) (locs : List Loc) (ls : Array Slot), gHw X τ G H locs → lv_has ls 4 [(0, .ref x0), (2, .int x2)] → K G → W p l e rm_X11_seasons s m args below meth c H locs 0 0 Q (F0 m 59 ls [])) : ∀ (k : Nat) (x3 : Int32) (G : gG) (H : Heap) (locs : List Loc) (ls : Array Slot), gHw X τ G H locs → lv_has ls 4 [(0, .ref x0), (1, .int x1), (2, .int x2), (3, .int x3)] → gOk (gIter (fun (q : Int32 × gG) => b_X11_seasons_44 τ n x0 x1 x2 q.1 q.2) k (x3, G)) K → W p l e rm_X11_seasons s m args below meth c H locs 0 0 Q (F0 m 44 ls []) := by
  intro k
  induction k with
  | zero =>
    intro x3 G H locs ls hw hl hok
    exact gOk_iter0 hok
  | succ k hc =>
    intro x3 G H locs ls hw hl hok
    exact w_b_X11_seasons_44 fx n x0 x1 x2 x3 h0 hw hl (gOk_iter hok) hc hx0
set_option maxHeartbeats 4000000 in
set_option maxRecDepth 100000 in
theorem w_X11_seasons_59 {X : gX} {τ : gτ} {p : Program} {l : Launch} {e : Env} {s : State} {m : MethodId} {args : Array Value} {below : List Frame} {meth : Method} {c : Code} (fx : gFx X p s m args meth c cX11_seasons 4 RX11) (n : Nat) (x0 : Nat) (x2 : Int32)  (h0 : gK τ x0 11)  (hr : meth.sig.returnType = (some .int)) {r : Int32} {G' : gG} {G : gG} {H : Heap} {locs : List Loc} {ls : Array Slot} (hw : gHw X τ G H locs) (hl : lv_has ls 4 [(0, .ref x0), (2, .int x2)]) (hok : gOk (k_X11_seasons_59 τ n x0 x2  G) (fun q => q = (r, G')))  : W p l e rm_X11_seasons s m args below meth c H locs 0 0 (MQ below (gQ X τ (some (.int r)) G') args s 0 0 (gFree X)) (F0 m 59 ls []) := by
  unfold k_X11_seasons_59 at hok
  refine lv_aload_n fx.1 fx.2.1 dX11_seasons_59 rfl (lv_at hl 0 rfl) ?_
  refine g_getr fx hw h0 lf_RX11_13 rfl dX11_seasons_60 hok (fun a11 h_a11 hok => ?_)
  refine lv_bipush (v := 9) fx.1 fx.2.1 dX11_seasons_63 (by decide) ?_
  refine g_iald fx hw h_a11 dX11_seasons_65 hok (fun hok => ?_)
  refine lv_iload_n fx.1 fx.2.1 dX11_seasons_66 rfl (lv_at hl 1 rfl) ?_
  refine lv_isub fx.1 fx.2.1 dX11_seasons_67 ?_
  cases gOk_some hok
  exact g_iret fx hw hr dX11_seasons_68
set_option maxHeartbeats 4000000 in
set_option maxRecDepth 100000 in
theorem w_X11_seasons_21 {X : gX} {τ : gτ} {p : Program} {l : Launch} {e : Env} {s : State} {m : MethodId} {args : Array Value} {below : List Frame} {meth : Method} {c : Code} (fx : gFx X p s m args meth c cX11_seasons 4 RX11) (n : Nat) (x0 : Nat) (x1 : Int32) (s0 : Nat) (s1 : Int32) (h0 : gK τ x0 11) (hs0 : gK τ s0 11) (hr : meth.sig.returnType = (some .int)) {r : Int32} {G' : gG} {G : gG} {H : Heap} {locs : List Loc} {ls : Array Slot} (hw : gHw X τ G H locs) (hl : lv_has ls 4 [(0, .ref x0), (1, .int x1)]) (hok : gOk (k_X11_seasons_21 τ n x0 x1 s0 s1 G) (fun q => q = (r, G')))  : W p l e rm_X11_seasons s m args below meth c H locs 0 0 (MQ below (gQ X τ (some (.int r)) G') args s 0 0 (gFree X)) (F0 m 21 ls [.int s1, .ref s0]) := by
  unfold k_X11_seasons_21 at hok
  refine lv_iconst (v := 1) fx.1 fx.2.1 dX11_seasons_21 (by decide) ?_
  obtain ⟨v3, G4, hf, hok⟩ := gOk_bind2 hok
  refine g_callV0 (κ := 11) fx hw (c_X11_throwsIf l X τ s0 s1 (1 : Int32) G hs0 hf) lv_RX11_263 ⟨rfl, rfl⟩ rfl rfl hs0 rfl hl.1 rfl ⟨Nat.le_of_ble_eq_true rfl, Nat.le_of_ble_eq_true rfl⟩ (Nat.le_of_ble_eq_true rfl) ⟨Nat.le_of_ble_eq_true rfl, Nat.le_of_ble_eq_true rfl⟩ dX11_seasons_22 (fun H locs hw => ?_)
  refine g_if_eq (tgt := 30) fx dX11_seasons_25 (by decide) hok (fun hok => ?_) (fun hok => ?_)
  · refine lv_aload_n fx.1 fx.2.1 dX11_seasons_30 rfl (lv_at hl 0 rfl) ?_
    obtain ⟨G5, hf, hok⟩ := gOk_bind hok
    refine g_callV0 (κ := 11) fx hw (c_X11_remembers l X τ n x0 G4 h0 hf) lv_RX11_346 ⟨rfl, rfl⟩ rfl rfl h0 rfl hl.1 rfl ⟨Nat.le_of_ble_eq_true rfl, Nat.le_of_ble_eq_true rfl⟩ (Nat.le_of_ble_eq_true rfl) ⟨Nat.le_of_ble_eq_true rfl, Nat.le_of_ble_eq_true rfl⟩ dX11_seasons_31 (fun H locs hw => ?_)
    refine lv_aload_n fx.1 fx.2.1 dX11_seasons_34 rfl (lv_at hl 0 rfl) ?_
    refine g_getr fx hw h0 lf_RX11_13 rfl dX11_seasons_35 hok (fun a6 h_a6 hok => ?_)
    refine lv_bipush (v := 9) fx.1 fx.2.1 dX11_seasons_38 (by decide) ?_
    refine g_iald fx hw h_a6 dX11_seasons_40 hok (fun hok => ?_)
    refine g_leti hok (fun v7 hok => ?_)
    refine lv_istore_n (lv' := [(2, .int v7), (0, .ref x0), (1, .int x1)]) fx.1 fx.2.1 dX11_seasons_41 rfl hl (by decide) rfl (fun ls hl => ?_)
    refine lv_iconst (v := 0) fx.1 fx.2.1 dX11_seasons_42 (by decide) ?_
    refine lv_istore_n (lv' := [(3, .int (0 : Int32)), (2, .int v7), (0, .ref x0), (1, .int x1)]) fx.1 fx.2.1 dX11_seasons_43 rfl hl (by decide) rfl (fun ls hl => ?_)
    refine w_l_X11_seasons_44 fx n x0 x1 v7 h0 ?_ n (0 : Int32) G5 _ _ _  hw (lv_sub hl [2, 3, 1, 0] rfl) (gOk_bindK hok)
    intro G10 H locs ls hw hl hok
    have hok : gOk (ρ := Int32 × gG) (k_X11_seasons_59 τ n x0 v7  G10) _ := hok
    exact w_X11_seasons_59 fx n x0 v7  h0  hr hw (lv_sub hl [0, 1] rfl) hok
  · refine lv_iconst (v := 0) fx.1 fx.2.1 dX11_seasons_28 (by decide) ?_
    cases gOk_some hok
    exact g_iret fx hw hr dX11_seasons_29
set_option maxHeartbeats 4000000 in
set_option maxRecDepth 100000 in
theorem c_X11_seasons (l : Launch) (X : gX) (τ : gτ) (n : Nat) (x0 : Nat) (x1 : Int32) (G : gG) (h0 : gK τ x0 11) {r : Int32} {G' : gG} (h : f_X11_seasons τ n x0 x1 G = some (r, G')) : gM l X τ yX11_seasons cX11_seasons 4 (some .int) rm_X11_seasons [.ref x0, .int x1] G (some (.int r)) G' := by
  refine g_body (by decide +kernel) (Nat.le_of_ble_eq_true rfl) ?_
  intro p e s m args below meth c ls fx hr hw hl
  have fx : gFx X p s m args meth c cX11_seasons 4 RX11 := fx
  have hl : lv_has ls 4 [(0, .ref x0), (1, .int x1)] := hl
  have hok : gOk (f_X11_seasons τ n x0 x1 G) (fun q => q = (r, G')) := ⟨_, h, rfl⟩
  unfold f_X11_seasons at hok
  show W p l e rm_X11_seasons s m args below meth c s.heap [] 0 0 (MQ below (gQ X τ (some (.int r)) G') args s 0 0 (gFree X)) _
  refine lv_aload_n fx.1 fx.2.1 dX11_seasons_0 rfl (lv_at hl 0 rfl) ?_
  refine lv_iconst (v := 0) fx.1 fx.2.1 dX11_seasons_1 (by decide) ?_
  refine g_puti fx hw h0 lp_RX11_3 rfl rfl dX11_seasons_2 hok (fun G1 H locs hw hok => ?_)
  refine lv_aload_n fx.1 fx.2.1 dX11_seasons_5 rfl (lv_at hl 0 rfl) ?_
  refine lv_iload_n fx.1 fx.2.1 dX11_seasons_6 rfl (lv_at hl 1 rfl) ?_
  refine lv_iconst (v := 1) fx.1 fx.2.1 dX11_seasons_7 (by decide) ?_
  refine lv_bipush (v := 50) fx.1 fx.2.1 dX11_seasons_8 (by decide) ?_
  obtain ⟨v2, hf, hok⟩ := gOk_bind hok
  refine g_callS0 fx hw (c_X11_in l X τ x1 (1 : Int32) (50 : Int32) G1  hf) ls_RX11_69 ⟨rfl, rfl⟩ rfl hl.1 rfl ⟨Nat.le_of_ble_eq_true rfl, Nat.le_of_ble_eq_true rfl⟩ (Nat.le_of_ble_eq_true rfl) ⟨Nat.le_of_ble_eq_true rfl, Nat.le_of_ble_eq_true rfl⟩ dX11_seasons_10 (fun H locs hw => ?_)
  refine g_if_ne (tgt := 20) fx dX11_seasons_13 (by decide) hok (fun hok => ?_) (fun hok => ?_)
  · refine lv_iconst (v := 1) fx.1 fx.2.1 dX11_seasons_16 (by decide) ?_
    refine lv_goto (tgt := 21) fx.1 fx.2.1 dX11_seasons_17 (by decide) ?_
    exact w_X11_seasons_21 fx n x0 x1 x0 (1 : Int32) h0 h0 hr hw (lv_sub hl [0, 1] rfl) hok
  · refine lv_iconst (v := 0) fx.1 fx.2.1 dX11_seasons_20 (by decide) ?_
    exact w_X11_seasons_21 fx n x0 x1 x0 (0 : Int32) h0 h0 hr hw (lv_sub hl [0, 1] rfl) hok
theorem dX11_haveLength_0 : decode cX11_haveLength 0 = .ok (.aload_n 0, 1) := by decide +kernel
theorem dX11_haveLength_1 : decode cX11_haveLength 1 = .ok (.iload_n 1, 1) := by decide +kernel
theorem dX11_haveLength_2 : decode cX11_haveLength 2 = .ok (.iconst 1, 1) := by decide +kernel
theorem dX11_haveLength_3 : decode cX11_haveLength 3 = .ok (.invokevirtual 132, 3) := by decide +kernel
theorem dX11_haveLength_6 : decode cX11_haveLength 6 = .ok (.iload 4, 2) := by decide +kernel
theorem dX11_haveLength_8 : decode cX11_haveLength 8 = .ok (.if_icmp .lt 29, 3) := by decide +kernel
theorem dX11_haveLength_11 : decode cX11_haveLength 11 = .ok (.aload_n 0, 1) := by decide +kernel
theorem dX11_haveLength_12 : decode cX11_haveLength 12 = .ok (.iload_n 2, 1) := by decide +kernel
theorem dX11_haveLength_13 : decode cX11_haveLength 13 = .ok (.iconst 1, 1) := by decide +kernel
theorem dX11_haveLength_14 : decode cX11_haveLength 14 = .ok (.invokevirtual 132, 3) := by decide +kernel
theorem dX11_haveLength_17 : decode cX11_haveLength 17 = .ok (.iload 4, 2) := by decide +kernel
theorem dX11_haveLength_19 : decode cX11_haveLength 19 = .ok (.if_icmp .lt 18, 3) := by decide +kernel
theorem dX11_haveLength_22 : decode cX11_haveLength 22 = .ok (.aload_n 0, 1) := by decide +kernel
theorem dX11_haveLength_23 : decode cX11_haveLength 23 = .ok (.iload_n 3, 1) := by decide +kernel
theorem dX11_haveLength_24 : decode cX11_haveLength 24 = .ok (.iconst 1, 1) := by decide +kernel
theorem dX11_haveLength_25 : decode cX11_haveLength 25 = .ok (.invokevirtual 132, 3) := by decide +kernel
theorem dX11_haveLength_28 : decode cX11_haveLength 28 = .ok (.iload 4, 2) := by decide +kernel
theorem dX11_haveLength_30 : decode cX11_haveLength 30 = .ok (.if_icmp .lt 7, 3) := by decide +kernel
theorem dX11_haveLength_33 : decode cX11_haveLength 33 = .ok (.iconst 1, 1) := by decide +kernel
theorem dX11_haveLength_34 : decode cX11_haveLength 34 = .ok (.goto 4, 3) := by decide +kernel
theorem dX11_haveLength_37 : decode cX11_haveLength 37 = .ok (.iconst 0, 1) := by decide +kernel
theorem dX11_haveLength_38 : decode cX11_haveLength 38 = .ok (.ireturn, 1) := by decide +kernel
def rm_X11_haveLength : Room := { frames := 2, cells := 0, slots := 0, locals := 43 }
def f_X11_haveLength (τ : gτ) (x0 : Nat) (x1 : Int32) (x2 : Int32) (x3 : Int32) (x4 : Int32) (G : gG) : Option (Int32) :=
  (f_X11_ofYarn τ x0 x1 (1 : Int32) G).bind fun v1 =>
  if v1 < x4 then (some (0))
  else ((f_X11_ofYarn τ x0 x2 (1 : Int32) G).bind fun v2 =>
  if v2 < x4 then (some (0))
  else ((f_X11_ofYarn τ x0 x3 (1 : Int32) G).bind fun v3 =>
  if v3 < x4 then (some (0))
  else (some (1))))
set_option maxHeartbeats 4000000 in
set_option maxRecDepth 100000 in
theorem c_X11_haveLength (l : Launch) (X : gX) (τ : gτ) (x0 : Nat) (x1 : Int32) (x2 : Int32) (x3 : Int32) (x4 : Int32) (G : gG) (h0 : gK τ x0 11) {r : Int32}  (h : f_X11_haveLength τ x0 x1 x2 x3 x4 G = some r) : gM l X τ yX11_haveLength cX11_haveLength 5 (some .boolean) rm_X11_haveLength [.ref x0, .int x1, .int x2, .int x3, .int x4] G (some (.int r)) G := by
  refine g_body (by decide +kernel) (Nat.le_of_ble_eq_true rfl) ?_
  intro p e s m args below meth c ls fx hr hw hl
  have fx : gFx X p s m args meth c cX11_haveLength 5 RX11 := fx
  have hl : lv_has ls 5 [(0, .ref x0), (1, .int x1), (2, .int x2), (3, .int x3), (4, .int x4)] := hl
  have hok : gOk (f_X11_haveLength τ x0 x1 x2 x3 x4 G) (fun q => q = r) := ⟨_, h, rfl⟩
  unfold f_X11_haveLength at hok
  show W p l e rm_X11_haveLength s m args below meth c s.heap [] 0 0 (MQ below (gQ X τ (some (.int r)) G) args s 0 0 (gFree X)) _
  refine lv_aload_n fx.1 fx.2.1 dX11_haveLength_0 rfl (lv_at hl 0 rfl) ?_
  refine lv_iload_n fx.1 fx.2.1 dX11_haveLength_1 rfl (lv_at hl 1 rfl) ?_
  refine lv_iconst (v := 1) fx.1 fx.2.1 dX11_haveLength_2 (by decide) ?_
  obtain ⟨v1, hf, hok⟩ := gOk_bind hok
  refine g_callV0 (κ := 11) fx hw (c_X11_ofYarn l X τ x0 x1 (1 : Int32) G h0 hf) lv_RX11_132 ⟨rfl, rfl⟩ rfl rfl h0 rfl hl.1 rfl ⟨Nat.le_of_ble_eq_true rfl, Nat.le_of_ble_eq_true rfl⟩ (Nat.le_of_ble_eq_true rfl) ⟨Nat.le_of_ble_eq_true rfl, Nat.le_of_ble_eq_true rfl⟩ dX11_haveLength_3 (fun H locs hw => ?_)
  refine lv_iload fx.1 fx.2.1 dX11_haveLength_6 (lv_at hl 4 rfl) ?_
  refine g_icmp_lt (tgt := 37) fx dX11_haveLength_8 (by decide) hok (fun hok => ?_) (fun hok => ?_)
  · refine lv_iconst (v := 0) fx.1 fx.2.1 dX11_haveLength_37 (by decide) ?_
    cases gOk_some hok
    exact g_zret fx hw hr (by decide) dX11_haveLength_38
  · refine lv_aload_n fx.1 fx.2.1 dX11_haveLength_11 rfl (lv_at hl 0 rfl) ?_
    refine lv_iload_n fx.1 fx.2.1 dX11_haveLength_12 rfl (lv_at hl 2 rfl) ?_
    refine lv_iconst (v := 1) fx.1 fx.2.1 dX11_haveLength_13 (by decide) ?_
    obtain ⟨v2, hf, hok⟩ := gOk_bind hok
    refine g_callV0 (κ := 11) fx hw (c_X11_ofYarn l X τ x0 x2 (1 : Int32) G h0 hf) lv_RX11_132 ⟨rfl, rfl⟩ rfl rfl h0 rfl hl.1 rfl ⟨Nat.le_of_ble_eq_true rfl, Nat.le_of_ble_eq_true rfl⟩ (Nat.le_of_ble_eq_true rfl) ⟨Nat.le_of_ble_eq_true rfl, Nat.le_of_ble_eq_true rfl⟩ dX11_haveLength_14 (fun H locs hw => ?_)
    refine lv_iload fx.1 fx.2.1 dX11_haveLength_17 (lv_at hl 4 rfl) ?_
    refine g_icmp_lt (tgt := 37) fx dX11_haveLength_19 (by decide) hok (fun hok => ?_) (fun hok => ?_)
    · refine lv_iconst (v := 0) fx.1 fx.2.1 dX11_haveLength_37 (by decide) ?_
      cases gOk_some hok
      exact g_zret fx hw hr (by decide) dX11_haveLength_38
    · refine lv_aload_n fx.1 fx.2.1 dX11_haveLength_22 rfl (lv_at hl 0 rfl) ?_
      refine lv_iload_n fx.1 fx.2.1 dX11_haveLength_23 rfl (lv_at hl 3 rfl) ?_
      refine lv_iconst (v := 1) fx.1 fx.2.1 dX11_haveLength_24 (by decide) ?_
      obtain ⟨v3, hf, hok⟩ := gOk_bind hok
      refine g_callV0 (κ := 11) fx hw (c_X11_ofYarn l X τ x0 x3 (1 : Int32) G h0 hf) lv_RX11_132 ⟨rfl, rfl⟩ rfl rfl h0 rfl hl.1 rfl ⟨Nat.le_of_ble_eq_true rfl, Nat.le_of_ble_eq_true rfl⟩ (Nat.le_of_ble_eq_true rfl) ⟨Nat.le_of_ble_eq_true rfl, Nat.le_of_ble_eq_true rfl⟩ dX11_haveLength_25 (fun H locs hw => ?_)
      refine lv_iload fx.1 fx.2.1 dX11_haveLength_28 (lv_at hl 4 rfl) ?_
      refine g_icmp_lt (tgt := 37) fx dX11_haveLength_30 (by decide) hok (fun hok => ?_) (fun hok => ?_)
      · refine lv_iconst (v := 0) fx.1 fx.2.1 dX11_haveLength_37 (by decide) ?_
        cases gOk_some hok
        exact g_zret fx hw hr (by decide) dX11_haveLength_38
      · refine lv_iconst (v := 1) fx.1 fx.2.1 dX11_haveLength_33 (by decide) ?_
        refine lv_goto (tgt := 38) fx.1 fx.2.1 dX11_haveLength_34 (by decide) ?_
        cases gOk_some hok
        exact g_zret fx hw hr (by decide) dX11_haveLength_38
theorem dX11_best_0 : decode cX11_best 0 = .ok (.aload_n 0, 1) := by decide +kernel
theorem dX11_best_1 : decode cX11_best 1 = .ok (.iconst 0, 1) := by decide +kernel
theorem dX11_best_2 : decode cX11_best 2 = .ok (.putfield 3, 3) := by decide +kernel
theorem dX11_best_5 : decode cX11_best 5 = .ok (.aload_n 0, 1) := by decide +kernel
theorem dX11_best_6 : decode cX11_best 6 = .ok (.iload_n 1, 1) := by decide +kernel
theorem dX11_best_7 : decode cX11_best 7 = .ok (.iconst 1, 1) := by decide +kernel
theorem dX11_best_8 : decode cX11_best 8 = .ok (.sipush 200, 3) := by decide +kernel
theorem dX11_best_11 : decode cX11_best 11 = .ok (.invokestatic 69, 3) := by decide +kernel
theorem dX11_best_14 : decode cX11_best 14 = .ok (.ifCond .ne 7, 3) := by decide +kernel
theorem dX11_best_17 : decode cX11_best 17 = .ok (.iconst 1, 1) := by decide +kernel
theorem dX11_best_18 : decode cX11_best 18 = .ok (.goto 4, 3) := by decide +kernel
theorem dX11_best_21 : decode cX11_best 21 = .ok (.iconst 0, 1) := by decide +kernel
theorem dX11_best_22 : decode cX11_best 22 = .ok (.iconst 1, 1) := by decide +kernel
theorem dX11_best_23 : decode cX11_best 23 = .ok (.invokevirtual 263, 3) := by decide +kernel
theorem dX11_best_26 : decode cX11_best 26 = .ok (.ifCond .eq 5, 3) := by decide +kernel
theorem dX11_best_29 : decode cX11_best 29 = .ok (.iconst 0, 1) := by decide +kernel
theorem dX11_best_30 : decode cX11_best 30 = .ok (.ireturn, 1) := by decide +kernel
theorem dX11_best_31 : decode cX11_best 31 = .ok (.iconst (-1), 1) := by decide +kernel
theorem dX11_best_32 : decode cX11_best 32 = .ok (.istore_n 2, 1) := by decide +kernel
theorem dX11_best_33 : decode cX11_best 33 = .ok (.iconst (-1), 1) := by decide +kernel
theorem dX11_best_34 : decode cX11_best 34 = .ok (.istore_n 3, 1) := by decide +kernel
theorem dX11_best_35 : decode cX11_best 35 = .ok (.iconst 0, 1) := by decide +kernel
theorem dX11_best_36 : decode cX11_best 36 = .ok (.istore 4, 2) := by decide +kernel
theorem dX11_best_38 : decode cX11_best 38 = .ok (.iload 4, 2) := by decide +kernel
theorem dX11_best_40 : decode cX11_best 40 = .ok (.aload_n 0, 1) := by decide +kernel
theorem dX11_best_41 : decode cX11_best 41 = .ok (.invokevirtual 65, 3) := by decide +kernel
theorem dX11_best_44 : decode cX11_best 44 = .ok (.if_icmp .ge 109, 3) := by decide +kernel
theorem dX11_best_47 : decode cX11_best 47 = .ok (.iload 4, 2) := by decide +kernel
theorem dX11_best_49 : decode cX11_best 49 = .ok (.iconst 1, 1) := by decide +kernel
theorem dX11_best_50 : decode cX11_best 50 = .ok (.iadd, 1) := by decide +kernel
theorem dX11_best_51 : decode cX11_best 51 = .ok (.istore 5, 2) := by decide +kernel
theorem dX11_best_53 : decode cX11_best 53 = .ok (.iload 5, 2) := by decide +kernel
theorem dX11_best_55 : decode cX11_best 55 = .ok (.aload_n 0, 1) := by decide +kernel
theorem dX11_best_56 : decode cX11_best 56 = .ok (.invokevirtual 65, 3) := by decide +kernel
theorem dX11_best_59 : decode cX11_best 59 = .ok (.if_icmp .ge 88, 3) := by decide +kernel
theorem dX11_best_62 : decode cX11_best 62 = .ok (.iload 5, 2) := by decide +kernel
theorem dX11_best_64 : decode cX11_best 64 = .ok (.iconst 1, 1) := by decide +kernel
theorem dX11_best_65 : decode cX11_best 65 = .ok (.iadd, 1) := by decide +kernel
theorem dX11_best_66 : decode cX11_best 66 = .ok (.istore 6, 2) := by decide +kernel
theorem dX11_best_68 : decode cX11_best 68 = .ok (.iload 6, 2) := by decide +kernel
theorem dX11_best_70 : decode cX11_best 70 = .ok (.aload_n 0, 1) := by decide +kernel
theorem dX11_best_71 : decode cX11_best 71 = .ok (.invokevirtual 65, 3) := by decide +kernel
theorem dX11_best_74 : decode cX11_best 74 = .ok (.if_icmp .ge 67, 3) := by decide +kernel
theorem dX11_best_77 : decode cX11_best 77 = .ok (.aload_n 0, 1) := by decide +kernel
theorem dX11_best_78 : decode cX11_best 78 = .ok (.iload 4, 2) := by decide +kernel
theorem dX11_best_80 : decode cX11_best 80 = .ok (.iload 5, 2) := by decide +kernel
theorem dX11_best_82 : decode cX11_best 82 = .ok (.iload 6, 2) := by decide +kernel
theorem dX11_best_84 : decode cX11_best 84 = .ok (.iload_n 1, 1) := by decide +kernel
theorem dX11_best_85 : decode cX11_best 85 = .ok (.invokevirtual 375, 3) := by decide +kernel
theorem dX11_best_88 : decode cX11_best 88 = .ok (.ifCond .eq 17, 3) := by decide +kernel
theorem dX11_best_91 : decode cX11_best 91 = .ok (.aload_n 0, 1) := by decide +kernel
theorem dX11_best_92 : decode cX11_best 92 = .ok (.iload 4, 2) := by decide +kernel
theorem dX11_best_94 : decode cX11_best 94 = .ok (.iload 5, 2) := by decide +kernel
theorem dX11_best_96 : decode cX11_best 96 = .ok (.iload 6, 2) := by decide +kernel
theorem dX11_best_98 : decode cX11_best 98 = .ok (.iload_n 1, 1) := by decide +kernel
theorem dX11_best_99 : decode cX11_best 99 = .ok (.invokevirtual 342, 3) := by decide +kernel
theorem dX11_best_102 : decode cX11_best 102 = .ok (.goto 4, 3) := by decide +kernel
theorem dX11_best_105 : decode cX11_best 105 = .ok (.iconst (-1), 1) := by decide +kernel
theorem dX11_best_106 : decode cX11_best 106 = .ok (.istore 7, 2) := by decide +kernel
theorem dX11_best_108 : decode cX11_best 108 = .ok (.iload 7, 2) := by decide +kernel
theorem dX11_best_110 : decode cX11_best 110 = .ok (.iload_n 3, 1) := by decide +kernel
theorem dX11_best_111 : decode cX11_best 111 = .ok (.if_icmp .gt 6, 3) := by decide +kernel
theorem dX11_best_114 : decode cX11_best 114 = .ok (.goto 21, 3) := by decide +kernel
theorem dX11_best_117 : decode cX11_best 117 = .ok (.bipush 100, 2) := by decide +kernel
theorem dX11_best_119 : decode cX11_best 119 = .ok (.iload 4, 2) := by decide +kernel
theorem dX11_best_121 : decode cX11_best 121 = .ok (.imul, 1) := by decide +kernel
theorem dX11_best_122 : decode cX11_best 122 = .ok (.bipush 10, 2) := by decide +kernel
theorem dX11_best_124 : decode cX11_best 124 = .ok (.iload 5, 2) := by decide +kernel
theorem dX11_best_126 : decode cX11_best 126 = .ok (.imul, 1) := by decide +kernel
theorem dX11_best_127 : decode cX11_best 127 = .ok (.iadd, 1) := by decide +kernel
theorem dX11_best_128 : decode cX11_best 128 = .ok (.iload 6, 2) := by decide +kernel
theorem dX11_best_130 : decode cX11_best 130 = .ok (.iadd, 1) := by decide +kernel
theorem dX11_best_131 : decode cX11_best 131 = .ok (.istore_n 2, 1) := by decide +kernel
theorem dX11_best_132 : decode cX11_best 132 = .ok (.iload 7, 2) := by decide +kernel
theorem dX11_best_134 : decode cX11_best 134 = .ok (.istore_n 3, 1) := by decide +kernel
theorem dX11_best_135 : decode cX11_best 135 = .ok (.iinc 6 1, 3) := by decide +kernel
theorem dX11_best_138 : decode cX11_best 138 = .ok (.goto (-70), 3) := by decide +kernel
theorem dX11_best_141 : decode cX11_best 141 = .ok (.iinc 5 1, 3) := by decide +kernel
theorem dX11_best_144 : decode cX11_best 144 = .ok (.goto (-91), 3) := by decide +kernel
theorem dX11_best_147 : decode cX11_best 147 = .ok (.iinc 4 1, 3) := by decide +kernel
theorem dX11_best_150 : decode cX11_best 150 = .ok (.goto (-112), 3) := by decide +kernel
theorem dX11_best_153 : decode cX11_best 153 = .ok (.iload_n 2, 1) := by decide +kernel
theorem dX11_best_154 : decode cX11_best 154 = .ok (.ireturn, 1) := by decide +kernel
theorem lv_RX11_375 : gLv RX11 375 RX11 yX11_haveLength cX11_haveLength 5 (some .boolean) 4 := gLv_of (wA_t (wt8 (List.mem_of_getElem? (i := 186) (by decide +kernel))) (by decide +kernel)) (wA_t (wt8 (List.mem_of_getElem? (i := 188) (by decide +kernel))) (by decide +kernel)) (wA_of (List.mem_append_left _ (List.mem_map.mpr ⟨(⟨"YearRopeModel", "haveLength", "(IIII)Z"⟩, 20), wp7 (List.mem_of_getElem? (i := 10) (by decide +kernel)), rfl⟩)) (by decide +kernel)) (wA_t (wt1 (List.mem_of_getElem? (i := 12) (by decide +kernel))) (by decide +kernel)) (wA_t (wt8 (List.mem_of_getElem? (i := 189) (by decide +kernel))) (by decide +kernel)) ⟨rfl, by decide +kernel, by decide +kernel, by decide +kernel⟩
def rm_X11_best : Room := { frames := 9, cells := 0, slots := 0, locals := 209 }
def k_X11_best_106 (τ : gτ) (n : Nat) (x0 : Nat) (x1 : Int32) (x2 : Int32) (x3 : Int32) (x4 : Int32) (x5 : Int32) (x6 : Int32) (s0 : Int32) (G : gG) : Option ((Int32 × Int32 × Int32 × gG) ⊕ ((Int32 × Int32 × gG))) :=
  if x3 < s0 then (gLet ((((100 : Int32) * x4) + ((10 : Int32) * x5)) + x6) fun v11 =>
  gLet (x6 + 1) fun v12 =>
  some (.inl (v11, s0, v12, G)))
  else (gLet (x6 + 1) fun v13 =>
  some (.inl (x2, x3, v13, G)))
def b_X11_best_68 (τ : gτ) (n : Nat) (x0 : Nat) (x1 : Int32) (x2 : Int32) (x3 : Int32) (x4 : Int32) (x5 : Int32) (x6 : Int32) (G : gG) : Option ((Int32 × Int32 × Int32 × gG) ⊕ ((Int32 × Int32 × gG))) :=
  (f_X11_yarns τ x0 G).bind fun v9 =>
  if v9 ≤ x6 then (some (.inr (x2, x3, G)))
  else ((f_X11_haveLength τ x0 x4 x5 x6 x1 G).bind fun v10 =>
  if v10 = 0 then (k_X11_best_106 τ n x0 x1 x2 x3 x4 x5 x6 (-1 : Int32) G)
  else (gBind2 (f_X11_bearsBy τ n x0 x4 x5 x6 x1 G) fun v14 G15 =>
  k_X11_best_106 τ n x0 x1 x2 x3 x4 x5 x6 v14 G15))
def l_X11_best_68 (τ : gτ) (n : Nat) (x0 : Nat) (x1 : Int32) (x2 : Int32) (x3 : Int32) (x4 : Int32) (x5 : Int32) (x6 : Int32) (G : gG) : Option ((Int32 × Int32 × gG)) :=
  gIter (fun (q : Int32 × Int32 × Int32 × gG) => b_X11_best_68 τ n x0 x1 q.1 q.2.1 x4 x5 q.2.2.1 q.2.2.2) n (x2, x3, x6, G)
def b_X11_best_53 (τ : gτ) (n : Nat) (x0 : Nat) (x1 : Int32) (x2 : Int32) (x3 : Int32) (x4 : Int32) (x5 : Int32) (G : gG) : Option ((Int32 × Int32 × Int32 × gG) ⊕ ((Int32 × Int32 × gG))) :=
  (f_X11_yarns τ x0 G).bind fun v7 =>
  if v7 ≤ x5 then (some (.inr (x2, x3, G)))
  else (gLet (x5 + (1 : Int32)) fun v8 =>
  (l_X11_best_68 τ n x0 x1 x2 x3 x4 x5 v8 G).bind fun q => gLet q.1 fun z16 => gLet q.2.1 fun z17 => gLet q.2.2 fun G18 => 
  gLet (x5 + 1) fun v19 =>
  some (.inl (z16, z17, v19, G18)))
def l_X11_best_53 (τ : gτ) (n : Nat) (x0 : Nat) (x1 : Int32) (x2 : Int32) (x3 : Int32) (x4 : Int32) (x5 : Int32) (G : gG) : Option ((Int32 × Int32 × gG)) :=
  gIter (fun (q : Int32 × Int32 × Int32 × gG) => b_X11_best_53 τ n x0 x1 q.1 q.2.1 x4 q.2.2.1 q.2.2.2) n (x2, x3, x5, G)
def b_X11_best_38 (τ : gτ) (n : Nat) (x0 : Nat) (x1 : Int32) (x2 : Int32) (x3 : Int32) (x4 : Int32) (G : gG) : Option ((Int32 × Int32 × Int32 × gG) ⊕ ((Int32 × gG))) :=
  (f_X11_yarns τ x0 G).bind fun v5 =>
  if v5 ≤ x4 then (some (.inr (x2, G)))
  else (gLet (x4 + (1 : Int32)) fun v6 =>
  (l_X11_best_53 τ n x0 x1 x2 x3 x4 v6 G).bind fun q => gLet q.1 fun z20 => gLet q.2.1 fun z21 => gLet q.2.2 fun G22 => 
  gLet (x4 + 1) fun v23 =>
  some (.inl (z20, z21, v23, G22)))
def l_X11_best_38 (τ : gτ) (n : Nat) (x0 : Nat) (x1 : Int32) (x2 : Int32) (x3 : Int32) (x4 : Int32) (G : gG) : Option ((Int32 × gG)) :=
  gIter (fun (q : Int32 × Int32 × Int32 × gG) => b_X11_best_38 τ n x0 x1 q.1 q.2.1 q.2.2.1 q.2.2.2) n (x2, x3, x4, G)
def k_X11_best_22 (τ : gτ) (n : Nat) (x0 : Nat) (x1 : Int32) (s0 : Nat) (s1 : Int32) (G : gG) : Option (Int32 × gG) :=
  gBind2 (f_X11_throwsIf s0 s1 (1 : Int32) G) fun v3 G4 =>
  if v3 = 0 then ((l_X11_best_38 τ n x0 x1 (-1 : Int32) (-1 : Int32) (0 : Int32) G4).bind fun q => gLet q.1 fun z24 => gLet q.2 fun G25 => 
  some (z24, G25))
  else (some (0, G4))
def f_X11_best (τ : gτ) (n : Nat) (x0 : Nat) (x1 : Int32) (G : gG) : Option (Int32 × gG) :=
  gLet (gsi G 11 0 x0 (0 : Int32)) fun G1 =>
  (f_X11_in x1 (1 : Int32) (200 : Int32)).bind fun v2 =>
  if v2 = 0 then (k_X11_best_22 τ n x0 x1 x0 (1 : Int32) G1)
  else (k_X11_best_22 τ n x0 x1 x0 (0 : Int32) G1)
set_option maxHeartbeats 4000000 in
set_option maxRecDepth 100000 in
theorem w_X11_best_106 {X : gX} {τ : gτ} {p : Program} {l : Launch} {e : Env} {s : State} {m : MethodId} {args : Array Value} {below : List Frame} {meth : Method} {c : Code} (fx : gFx X p s m args meth c cX11_best 8 RX11) (n : Nat) (x0 : Nat) (x1 : Int32) (x2 : Int32) (x3 : Int32) (x4 : Int32) (x5 : Int32) (x6 : Int32) (s0 : Int32) (h0 : gK τ x0 11)  {Q : State → Prop} {K : ((Int32 × Int32 × Int32 × gG) ⊕ ((Int32 × Int32 × gG))) → Prop} {G : gG} {H : Heap} {locs : List Loc} {ls : Array Slot} (hw : gHw X τ G H locs) (hl : lv_has ls 8 [(0, .ref x0), (1, .int x1), (2, .int x2), (3, .int x3), (4, .int x4), (5, .int x5), (6, .int x6)]) (hok : gOk (k_X11_best_106 τ n x0 x1 x2 x3 x4 x5 x6 s0 G) K) (hc : ∀ (y2 : Int32) (y3 : Int32) (y6 : Int32) (G : gG) (H : Heap) (locs : List Loc) (ls : Array Slot), gHw X τ G H locs → lv_has ls 8 [(0, .ref x0), (1, .int x1), (2, .int y2), (3, .int y3), (4, .int x4), (5, .int x5), (6, .int y6)] → K (.inl (y2, y3, y6, G)) → W p l e rm_X11_best s m args below meth c H locs 0 0 Q (F0 m 68 ls [])) (hx0 : ∀ (y2 : Int32) (y3 : Int32) (G : gG) (H : Heap) (locs : List Loc) (ls : Array Slot), gHw X τ G H locs → lv_has ls 8 [(0, .ref x0), (1, .int x1), (2, .int y2), (3, .int y3), (4, .int x4), (5, .int x5)] → K (.inr (y2, y3, G)) → W p l e rm_X11_best s m args below meth c H locs 0 0 Q (F0 m 141 ls [])) : W p l e rm_X11_best s m args below meth c H locs 0 0 Q (F0 m 106 ls [.int s0]) := by
  unfold k_X11_best_106 at hok
  refine lv_istore (lv' := [(7, .int s0), (0, .ref x0), (1, .int x1), (2, .int x2), (3, .int x3), (4, .int x4), (5, .int x5), (6, .int x6)]) fx.1 fx.2.1 dX11_best_106 hl (by decide) rfl (fun ls hl => ?_)
  refine lv_iload fx.1 fx.2.1 dX11_best_108 (lv_at hl 0 rfl) ?_
  refine lv_iload_n fx.1 fx.2.1 dX11_best_110 rfl (lv_at hl 4 rfl) ?_
  refine g_icmp_gt (tgt := 117) fx dX11_best_111 (by decide) hok (fun hok => ?_) (fun hok => ?_)
  · refine lv_bipush (v := 100) fx.1 fx.2.1 dX11_best_117 (by decide) ?_
    refine lv_iload fx.1 fx.2.1 dX11_best_119 (lv_at hl 5 rfl) ?_
    refine lv_imul fx.1 fx.2.1 dX11_best_121 ?_
    refine lv_bipush (v := 10) fx.1 fx.2.1 dX11_best_122 (by decide) ?_
    refine lv_iload fx.1 fx.2.1 dX11_best_124 (lv_at hl 6 rfl) ?_
    refine lv_imul fx.1 fx.2.1 dX11_best_126 ?_
    refine lv_iadd fx.1 fx.2.1 dX11_best_127 ?_
    refine lv_iload fx.1 fx.2.1 dX11_best_128 (lv_at hl 7 rfl) ?_
    refine lv_iadd fx.1 fx.2.1 dX11_best_130 ?_
    refine g_leti hok (fun v11 hok => ?_)
    refine lv_istore_n (lv' := [(2, .int v11), (7, .int s0), (0, .ref x0), (1, .int x1), (3, .int x3), (4, .int x4), (5, .int x5), (6, .int x6)]) fx.1 fx.2.1 dX11_best_131 rfl hl (by decide) rfl (fun ls hl => ?_)
    refine lv_iload fx.1 fx.2.1 dX11_best_132 (lv_at hl 1 rfl) ?_
    refine lv_istore_n (lv' := [(3, .int s0), (2, .int v11), (7, .int s0), (0, .ref x0), (1, .int x1), (4, .int x4), (5, .int x5), (6, .int x6)]) fx.1 fx.2.1 dX11_best_134 rfl hl (by decide) rfl (fun ls hl => ?_)
    obtain ⟨v12, e_v12, hok⟩ := gOk_let hok
    refine lv_iinc (v := v12) (lv' := [(6, .int v12), (3, .int s0), (2, .int v11), (7, .int s0), (0, .ref x0), (1, .int x1), (4, .int x4), (5, .int x5)]) fx.1 fx.2.1 dX11_best_135 hl (k := 7) rfl (by rw [e_v12]; rfl) (by decide) rfl (fun ls hl => ?_)
    refine lv_goto (tgt := 68) fx.1 fx.2.1 dX11_best_138 (by decide) ?_
    exact hc v11 s0 v12 G _ _ _  hw (lv_sub hl [4, 5, 2, 1, 6, 7, 0] rfl) (gOk_some hok)
  · refine lv_goto (tgt := 135) fx.1 fx.2.1 dX11_best_114 (by decide) ?_
    obtain ⟨v13, e_v13, hok⟩ := gOk_let hok
    refine lv_iinc (v := v13) (lv' := [(6, .int v13), (7, .int s0), (0, .ref x0), (1, .int x1), (2, .int x2), (3, .int x3), (4, .int x4), (5, .int x5)]) fx.1 fx.2.1 dX11_best_135 hl (k := 7) rfl (by rw [e_v13]; rfl) (by decide) rfl (fun ls hl => ?_)
    refine lv_goto (tgt := 68) fx.1 fx.2.1 dX11_best_138 (by decide) ?_
    exact hc x2 x3 v13 G _ _ _  hw (lv_sub hl [2, 3, 4, 5, 6, 7, 0] rfl) (gOk_some hok)
set_option maxHeartbeats 4000000 in
set_option maxRecDepth 100000 in
theorem w_b_X11_best_68 {X : gX} {τ : gτ} {p : Program} {l : Launch} {e : Env} {s : State} {m : MethodId} {args : Array Value} {below : List Frame} {meth : Method} {c : Code} (fx : gFx X p s m args meth c cX11_best 8 RX11) (n : Nat) (x0 : Nat) (x1 : Int32) (x2 : Int32) (x3 : Int32) (x4 : Int32) (x5 : Int32) (x6 : Int32) (h0 : gK τ x0 11) {Q : State → Prop} {K : ((Int32 × Int32 × Int32 × gG) ⊕ ((Int32 × Int32 × gG))) → Prop} {G : gG} {H : Heap} {locs : List Loc} {ls : Array Slot} (hw : gHw X τ G H locs) (hl : lv_has ls 8 [(0, .ref x0), (1, .int x1), (2, .int x2), (3, .int x3), (4, .int x4), (5, .int x5), (6, .int x6)]) (hok : gOk (b_X11_best_68 τ n x0 x1 x2 x3 x4 x5 x6 G) K) (hc : ∀ (y2 : Int32) (y3 : Int32) (y6 : Int32) (G : gG) (H : Heap) (locs : List Loc) (ls : Array Slot), gHw X τ G H locs → lv_has ls 8 [(0, .ref x0), (1, .int x1), (2, .int y2), (3, .int y3), (4, .int x4), (5, .int x5), (6, .int y6)] → K (.inl (y2, y3, y6, G)) → W p l e rm_X11_best s m args below meth c H locs 0 0 Q (F0 m 68 ls [])) (hx0 : ∀ (y2 : Int32) (y3 : Int32) (G : gG) (H : Heap) (locs : List Loc) (ls : Array Slot), gHw X τ G H locs → lv_has ls 8 [(0, .ref x0), (1, .int x1), (2, .int y2), (3, .int y3), (4, .int x4), (5, .int x5)] → K (.inr (y2, y3, G)) → W p l e rm_X11_best s m args below meth c H locs 0 0 Q (F0 m 141 ls [])) : W p l e rm_X11_best s m args below meth c H locs 0 0 Q (F0 m 68 ls []) := by
  unfold b_X11_best_68 at hok
  refine lv_iload fx.1 fx.2.1 dX11_best_68 (lv_at hl 6 rfl) ?_
  refine lv_aload_n fx.1 fx.2.1 dX11_best_70 rfl (lv_at hl 0 rfl) ?_
  obtain ⟨v9, hf, hok⟩ := gOk_bind hok
  refine g_callV0 (κ := 11) fx hw (c_X11_yarns l X τ x0 G h0 hf) lv_RX11_65 ⟨rfl, rfl⟩ rfl rfl h0 rfl hl.1 rfl ⟨Nat.le_of_ble_eq_true rfl, Nat.le_of_ble_eq_true rfl⟩ (Nat.le_of_ble_eq_true rfl) ⟨Nat.le_of_ble_eq_true rfl, Nat.le_of_ble_eq_true rfl⟩ dX11_best_71 (fun H locs hw => ?_)
  refine g_icmp_ge (tgt := 141) fx dX11_best_74 (by decide) hok (fun hok => ?_) (fun hok => ?_)
  · exact hx0 x2 x3 G _ _ _  hw (lv_sub hl [0, 1, 2, 3, 4, 5] rfl) (gOk_some hok)
  · refine lv_aload_n fx.1 fx.2.1 dX11_best_77 rfl (lv_at hl 0 rfl) ?_
    refine lv_iload fx.1 fx.2.1 dX11_best_78 (lv_at hl 4 rfl) ?_
    refine lv_iload fx.1 fx.2.1 dX11_best_80 (lv_at hl 5 rfl) ?_
    refine lv_iload fx.1 fx.2.1 dX11_best_82 (lv_at hl 6 rfl) ?_
    refine lv_iload_n fx.1 fx.2.1 dX11_best_84 rfl (lv_at hl 1 rfl) ?_
    obtain ⟨v10, hf, hok⟩ := gOk_bind hok
    refine g_callV0 (κ := 11) fx hw (c_X11_haveLength l X τ x0 x4 x5 x6 x1 G h0 hf) lv_RX11_375 ⟨rfl, rfl⟩ rfl rfl h0 rfl hl.1 rfl ⟨Nat.le_of_ble_eq_true rfl, Nat.le_of_ble_eq_true rfl⟩ (Nat.le_of_ble_eq_true rfl) ⟨Nat.le_of_ble_eq_true rfl, Nat.le_of_ble_eq_true rfl⟩ dX11_best_85 (fun H locs hw => ?_)
    refine g_if_eq (tgt := 105) fx dX11_best_88 (by decide) hok (fun hok => ?_) (fun hok => ?_)
    · refine lv_iconst (v := (-1)) fx.1 fx.2.1 dX11_best_105 (by decide) ?_
      exact w_X11_best_106 fx n x0 x1 x2 x3 x4 x5 x6 (-1 : Int32) h0  hw (lv_sub hl [0, 1, 2, 3, 4, 5, 6] rfl) hok hc hx0
    · refine lv_aload_n fx.1 fx.2.1 dX11_best_91 rfl (lv_at hl 0 rfl) ?_
      refine lv_iload fx.1 fx.2.1 dX11_best_92 (lv_at hl 4 rfl) ?_
      refine lv_iload fx.1 fx.2.1 dX11_best_94 (lv_at hl 5 rfl) ?_
      refine lv_iload fx.1 fx.2.1 dX11_best_96 (lv_at hl 6 rfl) ?_
      refine lv_iload_n fx.1 fx.2.1 dX11_best_98 rfl (lv_at hl 1 rfl) ?_
      obtain ⟨v14, G15, hf, hok⟩ := gOk_bind2 hok
      refine g_callV0 (κ := 11) fx hw (c_X11_bearsBy l X τ n x0 x4 x5 x6 x1 G h0 hf) lv_RX11_342 ⟨rfl, rfl⟩ rfl rfl h0 rfl hl.1 rfl ⟨Nat.le_of_ble_eq_true rfl, Nat.le_of_ble_eq_true rfl⟩ (Nat.le_of_ble_eq_true rfl) ⟨Nat.le_of_ble_eq_true rfl, Nat.le_of_ble_eq_true rfl⟩ dX11_best_99 (fun H locs hw => ?_)
      refine lv_goto (tgt := 106) fx.1 fx.2.1 dX11_best_102 (by decide) ?_
      exact w_X11_best_106 fx n x0 x1 x2 x3 x4 x5 x6 v14 h0  hw (lv_sub hl [0, 1, 2, 3, 4, 5, 6] rfl) hok hc hx0
theorem w_l_X11_best_68 {X : gX} {τ : gτ} {p : Program} {l : Launch} {e : Env} {s : State} {m : MethodId} {args : Array Value} {below : List Frame} {meth : Method} {c : Code} (fx : gFx X p s m args meth c cX11_best 8 RX11) (n : Nat) (x0 : Nat) (x1 : Int32) (x4 : Int32) (x5 : Int32) (h0 : gK τ x0 11) {Q : State → Prop} {K : ((Int32 × Int32 × gG)) → Prop} (hx0 : ∀ (y2 : Int32) (y3 : Int32) (G : gG) (H : Heap) (locs : List Loc) (ls : Array Slot), gHw X τ G H locs → lv_has ls 8 [(0, .ref x0), (1, .int x1), (2, .int y2), (3, .int y3), (4, .int x4), (5, .int x5)] → K (y2, y3, G) → W p l e rm_X11_best s m args below meth c H locs 0 0 Q (F0 m 141 ls [])) : ∀ (k : Nat) (x2 : Int32) (x3 : Int32) (x6 : Int32) (G : gG) (H : Heap) (locs : List Loc) (ls : Array Slot), gHw X τ G H locs → lv_has ls 8 [(0, .ref x0), (1, .int x1), (2, .int x2), (3, .int x3), (4, .int x4), (5, .int x5), (6, .int x6)] → gOk (gIter (fun (q : Int32 × Int32 × Int32 × gG) => b_X11_best_68 τ n x0 x1 q.1 q.2.1 x4 x5 q.2.2.1 q.2.2.2) k (x2, x3, x6, G)) K → W p l e rm_X11_best s m args below meth c H locs 0 0 Q (F0 m 68 ls []) := by
  intro k
  induction k with
  | zero =>
    intro x2 x3 x6 G H locs ls hw hl hok
    exact gOk_iter0 hok
  | succ k hc =>
    intro x2 x3 x6 G H locs ls hw hl hok
    exact w_b_X11_best_68 fx n x0 x1 x2 x3 x4 x5 x6 h0 hw hl (gOk_iter hok) hc hx0
set_option maxHeartbeats 4000000 in
set_option maxRecDepth 100000 in
theorem w_b_X11_best_53 {X : gX} {τ : gτ} {p : Program} {l : Launch} {e : Env} {s : State} {m : MethodId} {args : Array Value} {below : List Frame} {meth : Method} {c : Code} (fx : gFx X p s m args meth c cX11_best 8 RX11) (n : Nat) (x0 : Nat) (x1 : Int32) (x2 : Int32) (x3 : Int32) (x4 : Int32) (x5 : Int32) (h0 : gK τ x0 11) {Q : State → Prop} {K : ((Int32 × Int32 × Int32 × gG) ⊕ ((Int32 × Int32 × gG))) → Prop} {G : gG} {H : Heap} {locs : List Loc} {ls : Array Slot} (hw : gHw X τ G H locs) (hl : lv_has ls 8 [(0, .ref x0), (1, .int x1), (2, .int x2), (3, .int x3), (4, .int x4), (5, .int x5)]) (hok : gOk (b_X11_best_53 τ n x0 x1 x2 x3 x4 x5 G) K) (hc : ∀ (y2 : Int32) (y3 : Int32) (y5 : Int32) (G : gG) (H : Heap) (locs : List Loc) (ls : Array Slot), gHw X τ G H locs → lv_has ls 8 [(0, .ref x0), (1, .int x1), (2, .int y2), (3, .int y3), (4, .int x4), (5, .int y5)] → K (.inl (y2, y3, y5, G)) → W p l e rm_X11_best s m args below meth c H locs 0 0 Q (F0 m 53 ls [])) (hx0 : ∀ (y2 : Int32) (y3 : Int32) (G : gG) (H : Heap) (locs : List Loc) (ls : Array Slot), gHw X τ G H locs → lv_has ls 8 [(0, .ref x0), (1, .int x1), (2, .int y2), (3, .int y3), (4, .int x4)] → K (.inr (y2, y3, G)) → W p l e rm_X11_best s m args below meth c H locs 0 0 Q (F0 m 147 ls [])) : W p l e rm_X11_best s m args below meth c H locs 0 0 Q (F0 m 53 ls []) := by
  unfold b_X11_best_53 at hok
  refine lv_iload fx.1 fx.2.1 dX11_best_53 (lv_at hl 5 rfl) ?_
  refine lv_aload_n fx.1 fx.2.1 dX11_best_55 rfl (lv_at hl 0 rfl) ?_
  obtain ⟨v7, hf, hok⟩ := gOk_bind hok
  refine g_callV0 (κ := 11) fx hw (c_X11_yarns l X τ x0 G h0 hf) lv_RX11_65 ⟨rfl, rfl⟩ rfl rfl h0 rfl hl.1 rfl ⟨Nat.le_of_ble_eq_true rfl, Nat.le_of_ble_eq_true rfl⟩ (Nat.le_of_ble_eq_true rfl) ⟨Nat.le_of_ble_eq_true rfl, Nat.le_of_ble_eq_true rfl⟩ dX11_best_56 (fun H locs hw => ?_)
  refine g_icmp_ge (tgt := 147) fx dX11_best_59 (by decide) hok (fun hok => ?_) (fun hok => ?_)
  · exact hx0 x2 x3 G _ _ _  hw (lv_sub hl [0, 1, 2, 3, 4] rfl) (gOk_some hok)
  · refine lv_iload fx.1 fx.2.1 dX11_best_62 (lv_at hl 5 rfl) ?_
    refine lv_iconst (v := 1) fx.1 fx.2.1 dX11_best_64 (by decide) ?_
    refine lv_iadd fx.1 fx.2.1 dX11_best_65 ?_
    refine g_leti hok (fun v8 hok => ?_)
    refine lv_istore (lv' := [(6, .int v8), (0, .ref x0), (1, .int x1), (2, .int x2), (3, .int x3), (4, .int x4), (5, .int x5)]) fx.1 fx.2.1 dX11_best_66 hl (by decide) rfl (fun ls hl => ?_)
    refine w_l_X11_best_68 fx n x0 x1 x4 x5 h0 ?_ n x2 x3 v8 G _ _ _  hw (lv_sub hl [1, 2, 3, 4, 5, 6, 0] rfl) (gOk_bindK hok)
    intro z16 z17 G18 H locs ls hw hl hok
    have hok : gOk (ρ := (Int32 × Int32 × Int32 × gG) ⊕ ((Int32 × Int32 × gG))) (gLet (x5 + 1) fun v19 =>   some (.inl (z16, z17, v19, G18))) _ := hok
    obtain ⟨v19, e_v19, hok⟩ := gOk_let hok
    refine lv_iinc (v := v19) (lv' := [(5, .int v19), (0, .ref x0), (1, .int x1), (2, .int z16), (3, .int z17), (4, .int x4)]) fx.1 fx.2.1 dX11_best_141 hl (k := 5) rfl (by rw [e_v19]; rfl) (by decide) rfl (fun ls hl => ?_)
    refine lv_goto (tgt := 53) fx.1 fx.2.1 dX11_best_144 (by decide) ?_
    exact hc z16 z17 v19 G18 _ _ _  hw (lv_sub hl [1, 2, 3, 4, 5, 0] rfl) (gOk_some hok)
theorem w_l_X11_best_53 {X : gX} {τ : gτ} {p : Program} {l : Launch} {e : Env} {s : State} {m : MethodId} {args : Array Value} {below : List Frame} {meth : Method} {c : Code} (fx : gFx X p s m args meth c cX11_best 8 RX11) (n : Nat) (x0 : Nat) (x1 : Int32) (x4 : Int32) (h0 : gK τ x0 11) {Q : State → Prop} {K : ((Int32 × Int32 × gG)) → Prop} (hx0 : ∀ (y2 : Int32) (y3 : Int32) (G : gG) (H : Heap) (locs : List Loc) (ls : Array Slot), gHw X τ G H locs → lv_has ls 8 [(0, .ref x0), (1, .int x1), (2, .int y2), (3, .int y3), (4, .int x4)] → K (y2, y3, G) → W p l e rm_X11_best s m args below meth c H locs 0 0 Q (F0 m 147 ls [])) : ∀ (k : Nat) (x2 : Int32) (x3 : Int32) (x5 : Int32) (G : gG) (H : Heap) (locs : List Loc) (ls : Array Slot), gHw X τ G H locs → lv_has ls 8 [(0, .ref x0), (1, .int x1), (2, .int x2), (3, .int x3), (4, .int x4), (5, .int x5)] → gOk (gIter (fun (q : Int32 × Int32 × Int32 × gG) => b_X11_best_53 τ n x0 x1 q.1 q.2.1 x4 q.2.2.1 q.2.2.2) k (x2, x3, x5, G)) K → W p l e rm_X11_best s m args below meth c H locs 0 0 Q (F0 m 53 ls []) := by
  intro k
  induction k with
  | zero =>
    intro x2 x3 x5 G H locs ls hw hl hok
    exact gOk_iter0 hok
  | succ k hc =>
    intro x2 x3 x5 G H locs ls hw hl hok
    exact w_b_X11_best_53 fx n x0 x1 x2 x3 x4 x5 h0 hw hl (gOk_iter hok) hc hx0
set_option maxHeartbeats 4000000 in
set_option maxRecDepth 100000 in
theorem w_b_X11_best_38 {X : gX} {τ : gτ} {p : Program} {l : Launch} {e : Env} {s : State} {m : MethodId} {args : Array Value} {below : List Frame} {meth : Method} {c : Code} (fx : gFx X p s m args meth c cX11_best 8 RX11) (n : Nat) (x0 : Nat) (x1 : Int32) (x2 : Int32) (x3 : Int32) (x4 : Int32) (h0 : gK τ x0 11) {Q : State → Prop} {K : ((Int32 × Int32 × Int32 × gG) ⊕ ((Int32 × gG))) → Prop} {G : gG} {H : Heap} {locs : List Loc} {ls : Array Slot} (hw : gHw X τ G H locs) (hl : lv_has ls 8 [(0, .ref x0), (1, .int x1), (2, .int x2), (3, .int x3), (4, .int x4)]) (hok : gOk (b_X11_best_38 τ n x0 x1 x2 x3 x4 G) K) (hc : ∀ (y2 : Int32) (y3 : Int32) (y4 : Int32) (G : gG) (H : Heap) (locs : List Loc) (ls : Array Slot), gHw X τ G H locs → lv_has ls 8 [(0, .ref x0), (1, .int x1), (2, .int y2), (3, .int y3), (4, .int y4)] → K (.inl (y2, y3, y4, G)) → W p l e rm_X11_best s m args below meth c H locs 0 0 Q (F0 m 38 ls [])) (hx0 : ∀ (y2 : Int32) (G : gG) (H : Heap) (locs : List Loc) (ls : Array Slot), gHw X τ G H locs → lv_has ls 8 [(2, .int y2)] → K (.inr (y2, G)) → W p l e rm_X11_best s m args below meth c H locs 0 0 Q (F0 m 153 ls [])) : W p l e rm_X11_best s m args below meth c H locs 0 0 Q (F0 m 38 ls []) := by
  unfold b_X11_best_38 at hok
  refine lv_iload fx.1 fx.2.1 dX11_best_38 (lv_at hl 4 rfl) ?_
  refine lv_aload_n fx.1 fx.2.1 dX11_best_40 rfl (lv_at hl 0 rfl) ?_
  obtain ⟨v5, hf, hok⟩ := gOk_bind hok
  refine g_callV0 (κ := 11) fx hw (c_X11_yarns l X τ x0 G h0 hf) lv_RX11_65 ⟨rfl, rfl⟩ rfl rfl h0 rfl hl.1 rfl ⟨Nat.le_of_ble_eq_true rfl, Nat.le_of_ble_eq_true rfl⟩ (Nat.le_of_ble_eq_true rfl) ⟨Nat.le_of_ble_eq_true rfl, Nat.le_of_ble_eq_true rfl⟩ dX11_best_41 (fun H locs hw => ?_)
  refine g_icmp_ge (tgt := 153) fx dX11_best_44 (by decide) hok (fun hok => ?_) (fun hok => ?_)
  · exact hx0 x2 G _ _ _  hw (lv_sub hl [2] rfl) (gOk_some hok)
  · refine lv_iload fx.1 fx.2.1 dX11_best_47 (lv_at hl 4 rfl) ?_
    refine lv_iconst (v := 1) fx.1 fx.2.1 dX11_best_49 (by decide) ?_
    refine lv_iadd fx.1 fx.2.1 dX11_best_50 ?_
    refine g_leti hok (fun v6 hok => ?_)
    refine lv_istore (lv' := [(5, .int v6), (0, .ref x0), (1, .int x1), (2, .int x2), (3, .int x3), (4, .int x4)]) fx.1 fx.2.1 dX11_best_51 hl (by decide) rfl (fun ls hl => ?_)
    refine w_l_X11_best_53 fx n x0 x1 x4 h0 ?_ n x2 x3 v6 G _ _ _  hw (lv_sub hl [1, 2, 3, 4, 5, 0] rfl) (gOk_bindK hok)
    intro z20 z21 G22 H locs ls hw hl hok
    have hok : gOk (ρ := (Int32 × Int32 × Int32 × gG) ⊕ ((Int32 × gG))) (gLet (x4 + 1) fun v23 =>   some (.inl (z20, z21, v23, G22))) _ := hok
    obtain ⟨v23, e_v23, hok⟩ := gOk_let hok
    refine lv_iinc (v := v23) (lv' := [(4, .int v23), (0, .ref x0), (1, .int x1), (2, .int z20), (3, .int z21)]) fx.1 fx.2.1 dX11_best_147 hl (k := 4) rfl (by rw [e_v23]; rfl) (by decide) rfl (fun ls hl => ?_)
    refine lv_goto (tgt := 38) fx.1 fx.2.1 dX11_best_150 (by decide) ?_
    exact hc z20 z21 v23 G22 _ _ _  hw (lv_sub hl [1, 2, 3, 4, 0] rfl) (gOk_some hok)
theorem w_l_X11_best_38 {X : gX} {τ : gτ} {p : Program} {l : Launch} {e : Env} {s : State} {m : MethodId} {args : Array Value} {below : List Frame} {meth : Method} {c : Code} (fx : gFx X p s m args meth c cX11_best 8 RX11) (n : Nat) (x0 : Nat) (x1 : Int32) (h0 : gK τ x0 11) {Q : State → Prop} {K : ((Int32 × gG)) → Prop} (hx0 : ∀ (y2 : Int32) (G : gG) (H : Heap) (locs : List Loc) (ls : Array Slot), gHw X τ G H locs → lv_has ls 8 [(2, .int y2)] → K (y2, G) → W p l e rm_X11_best s m args below meth c H locs 0 0 Q (F0 m 153 ls [])) : ∀ (k : Nat) (x2 : Int32) (x3 : Int32) (x4 : Int32) (G : gG) (H : Heap) (locs : List Loc) (ls : Array Slot), gHw X τ G H locs → lv_has ls 8 [(0, .ref x0), (1, .int x1), (2, .int x2), (3, .int x3), (4, .int x4)] → gOk (gIter (fun (q : Int32 × Int32 × Int32 × gG) => b_X11_best_38 τ n x0 x1 q.1 q.2.1 q.2.2.1 q.2.2.2) k (x2, x3, x4, G)) K → W p l e rm_X11_best s m args below meth c H locs 0 0 Q (F0 m 38 ls []) := by
  intro k
  induction k with
  | zero =>
    intro x2 x3 x4 G H locs ls hw hl hok
    exact gOk_iter0 hok
  | succ k hc =>
    intro x2 x3 x4 G H locs ls hw hl hok
    exact w_b_X11_best_38 fx n x0 x1 x2 x3 x4 h0 hw hl (gOk_iter hok) hc hx0
set_option maxHeartbeats 4000000 in
set_option maxRecDepth 100000 in
theorem w_X11_best_22 {X : gX} {τ : gτ} {p : Program} {l : Launch} {e : Env} {s : State} {m : MethodId} {args : Array Value} {below : List Frame} {meth : Method} {c : Code} (fx : gFx X p s m args meth c cX11_best 8 RX11) (n : Nat) (x0 : Nat) (x1 : Int32) (s0 : Nat) (s1 : Int32) (h0 : gK τ x0 11) (hs0 : gK τ s0 11) (hr : meth.sig.returnType = (some .int)) {r : Int32} {G' : gG} {G : gG} {H : Heap} {locs : List Loc} {ls : Array Slot} (hw : gHw X τ G H locs) (hl : lv_has ls 8 [(0, .ref x0), (1, .int x1)]) (hok : gOk (k_X11_best_22 τ n x0 x1 s0 s1 G) (fun q => q = (r, G')))  : W p l e rm_X11_best s m args below meth c H locs 0 0 (MQ below (gQ X τ (some (.int r)) G') args s 0 0 (gFree X)) (F0 m 22 ls [.int s1, .ref s0]) := by
  unfold k_X11_best_22 at hok
  refine lv_iconst (v := 1) fx.1 fx.2.1 dX11_best_22 (by decide) ?_
  obtain ⟨v3, G4, hf, hok⟩ := gOk_bind2 hok
  refine g_callV0 (κ := 11) fx hw (c_X11_throwsIf l X τ s0 s1 (1 : Int32) G hs0 hf) lv_RX11_263 ⟨rfl, rfl⟩ rfl rfl hs0 rfl hl.1 rfl ⟨Nat.le_of_ble_eq_true rfl, Nat.le_of_ble_eq_true rfl⟩ (Nat.le_of_ble_eq_true rfl) ⟨Nat.le_of_ble_eq_true rfl, Nat.le_of_ble_eq_true rfl⟩ dX11_best_23 (fun H locs hw => ?_)
  refine g_if_eq (tgt := 31) fx dX11_best_26 (by decide) hok (fun hok => ?_) (fun hok => ?_)
  · refine lv_iconst (v := (-1)) fx.1 fx.2.1 dX11_best_31 (by decide) ?_
    refine lv_istore_n (lv' := [(2, .int (-1 : Int32)), (0, .ref x0), (1, .int x1)]) fx.1 fx.2.1 dX11_best_32 rfl hl (by decide) rfl (fun ls hl => ?_)
    refine lv_iconst (v := (-1)) fx.1 fx.2.1 dX11_best_33 (by decide) ?_
    refine lv_istore_n (lv' := [(3, .int (-1 : Int32)), (2, .int (-1 : Int32)), (0, .ref x0), (1, .int x1)]) fx.1 fx.2.1 dX11_best_34 rfl hl (by decide) rfl (fun ls hl => ?_)
    refine lv_iconst (v := 0) fx.1 fx.2.1 dX11_best_35 (by decide) ?_
    refine lv_istore (lv' := [(4, .int (0 : Int32)), (3, .int (-1 : Int32)), (2, .int (-1 : Int32)), (0, .ref x0), (1, .int x1)]) fx.1 fx.2.1 dX11_best_36 hl (by decide) rfl (fun ls hl => ?_)
    refine w_l_X11_best_38 fx n x0 x1 h0 ?_ n (-1 : Int32) (-1 : Int32) (0 : Int32) G4 _ _ _  hw (lv_sub hl [3, 4, 2, 1, 0] rfl) (gOk_bindK hok)
    intro z24 G25 H locs ls hw hl hok
    have hok : gOk (ρ := Int32 × gG) (some (z24, G25)) _ := hok
    refine lv_iload_n fx.1 fx.2.1 dX11_best_153 rfl (lv_at hl 0 rfl) ?_
    cases gOk_some hok
    exact g_iret fx hw hr dX11_best_154
  · refine lv_iconst (v := 0) fx.1 fx.2.1 dX11_best_29 (by decide) ?_
    cases gOk_some hok
    exact g_iret fx hw hr dX11_best_30
set_option maxHeartbeats 4000000 in
set_option maxRecDepth 100000 in
theorem c_X11_best (l : Launch) (X : gX) (τ : gτ) (n : Nat) (x0 : Nat) (x1 : Int32) (G : gG) (h0 : gK τ x0 11) {r : Int32} {G' : gG} (h : f_X11_best τ n x0 x1 G = some (r, G')) : gM l X τ yX11_best cX11_best 8 (some .int) rm_X11_best [.ref x0, .int x1] G (some (.int r)) G' := by
  refine g_body (by decide +kernel) (Nat.le_of_ble_eq_true rfl) ?_
  intro p e s m args below meth c ls fx hr hw hl
  have fx : gFx X p s m args meth c cX11_best 8 RX11 := fx
  have hl : lv_has ls 8 [(0, .ref x0), (1, .int x1)] := hl
  have hok : gOk (f_X11_best τ n x0 x1 G) (fun q => q = (r, G')) := ⟨_, h, rfl⟩
  unfold f_X11_best at hok
  show W p l e rm_X11_best s m args below meth c s.heap [] 0 0 (MQ below (gQ X τ (some (.int r)) G') args s 0 0 (gFree X)) _
  refine lv_aload_n fx.1 fx.2.1 dX11_best_0 rfl (lv_at hl 0 rfl) ?_
  refine lv_iconst (v := 0) fx.1 fx.2.1 dX11_best_1 (by decide) ?_
  refine g_puti fx hw h0 lp_RX11_3 rfl rfl dX11_best_2 hok (fun G1 H locs hw hok => ?_)
  refine lv_aload_n fx.1 fx.2.1 dX11_best_5 rfl (lv_at hl 0 rfl) ?_
  refine lv_iload_n fx.1 fx.2.1 dX11_best_6 rfl (lv_at hl 1 rfl) ?_
  refine lv_iconst (v := 1) fx.1 fx.2.1 dX11_best_7 (by decide) ?_
  refine lv_sipush (v := 200) fx.1 fx.2.1 dX11_best_8 (by decide) ?_
  obtain ⟨v2, hf, hok⟩ := gOk_bind hok
  refine g_callS0 fx hw (c_X11_in l X τ x1 (1 : Int32) (200 : Int32) G1  hf) ls_RX11_69 ⟨rfl, rfl⟩ rfl hl.1 rfl ⟨Nat.le_of_ble_eq_true rfl, Nat.le_of_ble_eq_true rfl⟩ (Nat.le_of_ble_eq_true rfl) ⟨Nat.le_of_ble_eq_true rfl, Nat.le_of_ble_eq_true rfl⟩ dX11_best_11 (fun H locs hw => ?_)
  refine g_if_ne (tgt := 21) fx dX11_best_14 (by decide) hok (fun hok => ?_) (fun hok => ?_)
  · refine lv_iconst (v := 1) fx.1 fx.2.1 dX11_best_17 (by decide) ?_
    refine lv_goto (tgt := 22) fx.1 fx.2.1 dX11_best_18 (by decide) ?_
    exact w_X11_best_22 fx n x0 x1 x0 (1 : Int32) h0 h0 hr hw (lv_sub hl [0, 1] rfl) hok
  · refine lv_iconst (v := 0) fx.1 fx.2.1 dX11_best_21 (by decide) ?_
    exact w_X11_best_22 fx n x0 x1 x0 (0 : Int32) h0 h0 hr hw (lv_sub hl [0, 1] rfl) hok
theorem dX11_cheapestOf_0 : decode cX11_cheapestOf 0 = .ok (.iconst (-1), 1) := by decide +kernel
theorem dX11_cheapestOf_1 : decode cX11_cheapestOf 1 = .ok (.istore_n 2, 1) := by decide +kernel
theorem dX11_cheapestOf_2 : decode cX11_cheapestOf 2 = .ok (.ldc_w 379, 3) := by decide +kernel
theorem dX11_cheapestOf_5 : decode cX11_cheapestOf 5 = .ok (.istore_n 3, 1) := by decide +kernel
theorem dX11_cheapestOf_6 : decode cX11_cheapestOf 6 = .ok (.iconst 0, 1) := by decide +kernel
theorem dX11_cheapestOf_7 : decode cX11_cheapestOf 7 = .ok (.istore 4, 2) := by decide +kernel
theorem dX11_cheapestOf_9 : decode cX11_cheapestOf 9 = .ok (.iload 4, 2) := by decide +kernel
theorem dX11_cheapestOf_11 : decode cX11_cheapestOf 11 = .ok (.aload_n 0, 1) := by decide +kernel
theorem dX11_cheapestOf_12 : decode cX11_cheapestOf 12 = .ok (.invokevirtual 65, 3) := by decide +kernel
theorem dX11_cheapestOf_15 : decode cX11_cheapestOf 15 = .ok (.if_icmp .ge 147, 3) := by decide +kernel
theorem dX11_cheapestOf_18 : decode cX11_cheapestOf 18 = .ok (.iload 4, 2) := by decide +kernel
theorem dX11_cheapestOf_20 : decode cX11_cheapestOf 20 = .ok (.iconst 1, 1) := by decide +kernel
theorem dX11_cheapestOf_21 : decode cX11_cheapestOf 21 = .ok (.iadd, 1) := by decide +kernel
theorem dX11_cheapestOf_22 : decode cX11_cheapestOf 22 = .ok (.istore 5, 2) := by decide +kernel
theorem dX11_cheapestOf_24 : decode cX11_cheapestOf 24 = .ok (.iload 5, 2) := by decide +kernel
theorem dX11_cheapestOf_26 : decode cX11_cheapestOf 26 = .ok (.aload_n 0, 1) := by decide +kernel
theorem dX11_cheapestOf_27 : decode cX11_cheapestOf 27 = .ok (.invokevirtual 65, 3) := by decide +kernel
theorem dX11_cheapestOf_30 : decode cX11_cheapestOf 30 = .ok (.if_icmp .ge 126, 3) := by decide +kernel
theorem dX11_cheapestOf_33 : decode cX11_cheapestOf 33 = .ok (.iload 5, 2) := by decide +kernel
theorem dX11_cheapestOf_35 : decode cX11_cheapestOf 35 = .ok (.iconst 1, 1) := by decide +kernel
theorem dX11_cheapestOf_36 : decode cX11_cheapestOf 36 = .ok (.iadd, 1) := by decide +kernel
theorem dX11_cheapestOf_37 : decode cX11_cheapestOf 37 = .ok (.istore 6, 2) := by decide +kernel
theorem dX11_cheapestOf_39 : decode cX11_cheapestOf 39 = .ok (.iload 6, 2) := by decide +kernel
theorem dX11_cheapestOf_41 : decode cX11_cheapestOf 41 = .ok (.aload_n 0, 1) := by decide +kernel
theorem dX11_cheapestOf_42 : decode cX11_cheapestOf 42 = .ok (.invokevirtual 65, 3) := by decide +kernel
theorem dX11_cheapestOf_45 : decode cX11_cheapestOf 45 = .ok (.if_icmp .ge 105, 3) := by decide +kernel
theorem dX11_cheapestOf_48 : decode cX11_cheapestOf 48 = .ok (.aload_n 0, 1) := by decide +kernel
theorem dX11_cheapestOf_49 : decode cX11_cheapestOf 49 = .ok (.iload_n 1, 1) := by decide +kernel
theorem dX11_cheapestOf_50 : decode cX11_cheapestOf 50 = .ok (.iconst 1, 1) := by decide +kernel
theorem dX11_cheapestOf_51 : decode cX11_cheapestOf 51 = .ok (.invokevirtual 336, 3) := by decide +kernel
theorem dX11_cheapestOf_54 : decode cX11_cheapestOf 54 = .ok (.istore 7, 2) := by decide +kernel
theorem dX11_cheapestOf_56 : decode cX11_cheapestOf 56 = .ok (.aload_n 0, 1) := by decide +kernel
theorem dX11_cheapestOf_57 : decode cX11_cheapestOf 57 = .ok (.iload 4, 2) := by decide +kernel
theorem dX11_cheapestOf_59 : decode cX11_cheapestOf 59 = .ok (.iconst 0, 1) := by decide +kernel
theorem dX11_cheapestOf_60 : decode cX11_cheapestOf 60 = .ok (.invokevirtual 132, 3) := by decide +kernel
theorem dX11_cheapestOf_63 : decode cX11_cheapestOf 63 = .ok (.aload_n 0, 1) := by decide +kernel
theorem dX11_cheapestOf_64 : decode cX11_cheapestOf 64 = .ok (.iload 5, 2) := by decide +kernel
theorem dX11_cheapestOf_66 : decode cX11_cheapestOf 66 = .ok (.iconst 0, 1) := by decide +kernel
theorem dX11_cheapestOf_67 : decode cX11_cheapestOf 67 = .ok (.invokevirtual 132, 3) := by decide +kernel
theorem dX11_cheapestOf_70 : decode cX11_cheapestOf 70 = .ok (.iadd, 1) := by decide +kernel
theorem dX11_cheapestOf_71 : decode cX11_cheapestOf 71 = .ok (.aload_n 0, 1) := by decide +kernel
theorem dX11_cheapestOf_72 : decode cX11_cheapestOf 72 = .ok (.iload 6, 2) := by decide +kernel
theorem dX11_cheapestOf_74 : decode cX11_cheapestOf 74 = .ok (.iconst 0, 1) := by decide +kernel
theorem dX11_cheapestOf_75 : decode cX11_cheapestOf 75 = .ok (.invokevirtual 132, 3) := by decide +kernel
theorem dX11_cheapestOf_78 : decode cX11_cheapestOf 78 = .ok (.iadd, 1) := by decide +kernel
theorem dX11_cheapestOf_79 : decode cX11_cheapestOf 79 = .ok (.istore 8, 2) := by decide +kernel
theorem dX11_cheapestOf_81 : decode cX11_cheapestOf 81 = .ok (.iload 8, 2) := by decide +kernel
theorem dX11_cheapestOf_83 : decode cX11_cheapestOf 83 = .ok (.iload_n 3, 1) := by decide +kernel
theorem dX11_cheapestOf_84 : decode cX11_cheapestOf 84 = .ok (.if_icmp .ge 60, 3) := by decide +kernel
theorem dX11_cheapestOf_87 : decode cX11_cheapestOf 87 = .ok (.aload_n 0, 1) := by decide +kernel
theorem dX11_cheapestOf_88 : decode cX11_cheapestOf 88 = .ok (.iload 4, 2) := by decide +kernel
theorem dX11_cheapestOf_90 : decode cX11_cheapestOf 90 = .ok (.iload 5, 2) := by decide +kernel
theorem dX11_cheapestOf_92 : decode cX11_cheapestOf 92 = .ok (.iload 6, 2) := by decide +kernel
theorem dX11_cheapestOf_94 : decode cX11_cheapestOf 94 = .ok (.iload 7, 2) := by decide +kernel
theorem dX11_cheapestOf_96 : decode cX11_cheapestOf 96 = .ok (.invokevirtual 375, 3) := by decide +kernel
theorem dX11_cheapestOf_99 : decode cX11_cheapestOf 99 = .ok (.ifCond .eq 45, 3) := by decide +kernel
theorem dX11_cheapestOf_102 : decode cX11_cheapestOf 102 = .ok (.aload_n 0, 1) := by decide +kernel
theorem dX11_cheapestOf_103 : decode cX11_cheapestOf 103 = .ok (.iload 4, 2) := by decide +kernel
theorem dX11_cheapestOf_105 : decode cX11_cheapestOf 105 = .ok (.iload 5, 2) := by decide +kernel
theorem dX11_cheapestOf_107 : decode cX11_cheapestOf 107 = .ok (.iload 6, 2) := by decide +kernel
theorem dX11_cheapestOf_109 : decode cX11_cheapestOf 109 = .ok (.iload 7, 2) := by decide +kernel
theorem dX11_cheapestOf_111 : decode cX11_cheapestOf 111 = .ok (.invokevirtual 342, 3) := by decide +kernel
theorem dX11_cheapestOf_114 : decode cX11_cheapestOf 114 = .ok (.aload_n 0, 1) := by decide +kernel
theorem dX11_cheapestOf_115 : decode cX11_cheapestOf 115 = .ok (.iload_n 1, 1) := by decide +kernel
theorem dX11_cheapestOf_116 : decode cX11_cheapestOf 116 = .ok (.iconst 0, 1) := by decide +kernel
theorem dX11_cheapestOf_117 : decode cX11_cheapestOf 117 = .ok (.invokevirtual 336, 3) := by decide +kernel
theorem dX11_cheapestOf_120 : decode cX11_cheapestOf 120 = .ok (.if_icmp .ge 6, 3) := by decide +kernel
theorem dX11_cheapestOf_123 : decode cX11_cheapestOf 123 = .ok (.goto 21, 3) := by decide +kernel
theorem dX11_cheapestOf_126 : decode cX11_cheapestOf 126 = .ok (.bipush 100, 2) := by decide +kernel
theorem dX11_cheapestOf_128 : decode cX11_cheapestOf 128 = .ok (.iload 4, 2) := by decide +kernel
theorem dX11_cheapestOf_130 : decode cX11_cheapestOf 130 = .ok (.imul, 1) := by decide +kernel
theorem dX11_cheapestOf_131 : decode cX11_cheapestOf 131 = .ok (.bipush 10, 2) := by decide +kernel
theorem dX11_cheapestOf_133 : decode cX11_cheapestOf 133 = .ok (.iload 5, 2) := by decide +kernel
theorem dX11_cheapestOf_135 : decode cX11_cheapestOf 135 = .ok (.imul, 1) := by decide +kernel
theorem dX11_cheapestOf_136 : decode cX11_cheapestOf 136 = .ok (.iadd, 1) := by decide +kernel
theorem dX11_cheapestOf_137 : decode cX11_cheapestOf 137 = .ok (.iload 6, 2) := by decide +kernel
theorem dX11_cheapestOf_139 : decode cX11_cheapestOf 139 = .ok (.iadd, 1) := by decide +kernel
theorem dX11_cheapestOf_140 : decode cX11_cheapestOf 140 = .ok (.istore_n 2, 1) := by decide +kernel
theorem dX11_cheapestOf_141 : decode cX11_cheapestOf 141 = .ok (.iload 8, 2) := by decide +kernel
theorem dX11_cheapestOf_143 : decode cX11_cheapestOf 143 = .ok (.istore_n 3, 1) := by decide +kernel
theorem dX11_cheapestOf_144 : decode cX11_cheapestOf 144 = .ok (.iinc 6 1, 3) := by decide +kernel
theorem dX11_cheapestOf_147 : decode cX11_cheapestOf 147 = .ok (.goto (-108), 3) := by decide +kernel
theorem dX11_cheapestOf_150 : decode cX11_cheapestOf 150 = .ok (.iinc 5 1, 3) := by decide +kernel
theorem dX11_cheapestOf_153 : decode cX11_cheapestOf 153 = .ok (.goto (-129), 3) := by decide +kernel
theorem dX11_cheapestOf_156 : decode cX11_cheapestOf 156 = .ok (.iinc 4 1, 3) := by decide +kernel
theorem dX11_cheapestOf_159 : decode cX11_cheapestOf 159 = .ok (.goto (-150), 3) := by decide +kernel
theorem dX11_cheapestOf_162 : decode cX11_cheapestOf 162 = .ok (.iload_n 2, 1) := by decide +kernel
theorem dX11_cheapestOf_163 : decode cX11_cheapestOf 163 = .ok (.ireturn, 1) := by decide +kernel
theorem lc_RX11_379 : Cond.constant RX11 379 1000000 ∈ wA := wA_t (wt8 (List.mem_of_getElem? (i := 198) (by decide +kernel))) (by decide +kernel)
def rm_X11_cheapestOf : Room := { frames := 9, cells := 0, slots := 0, locals := 209 }
def b_X11_cheapestOf_39 (τ : gτ) (n : Nat) (x0 : Nat) (x1 : Int32) (x2 : Int32) (x3 : Int32) (x4 : Int32) (x5 : Int32) (x6 : Int32) (G : gG) : Option ((Int32 × Int32 × Int32 × gG) ⊕ ((Int32 × Int32 × gG))) :=
  (f_X11_yarns τ x0 G).bind fun v5 =>
  if v5 ≤ x6 then (some (.inr (x2, x3, G)))
  else ((f_X11_ofOrder τ x0 x1 (1 : Int32) G).bind fun v6 =>
  (f_X11_ofYarn τ x0 x4 (0 : Int32) G).bind fun v7 =>
  (f_X11_ofYarn τ x0 x5 (0 : Int32) G).bind fun v8 =>
  (f_X11_ofYarn τ x0 x6 (0 : Int32) G).bind fun v9 =>
  gLet ((v7 + v8) + v9) fun v10 =>
  if x3 ≤ v10 then (gLet (x6 + 1) fun v11 =>
  some (.inl (x2, x3, v11, G)))
  else ((f_X11_haveLength τ x0 x4 x5 x6 v6 G).bind fun v12 =>
  if v12 = 0 then (gLet (x6 + 1) fun v13 =>
  some (.inl (x2, x3, v13, G)))
  else (gBind2 (f_X11_bearsBy τ n x0 x4 x5 x6 v6 G) fun v14 G15 =>
  (f_X11_ofOrder τ x0 x1 (0 : Int32) G15).bind fun v16 =>
  if v16 ≤ v14 then (gLet ((((100 : Int32) * x4) + ((10 : Int32) * x5)) + x6) fun v17 =>
  gLet (x6 + 1) fun v18 =>
  some (.inl (v17, v10, v18, G15)))
  else (gLet (x6 + 1) fun v19 =>
  some (.inl (x2, x3, v19, G15))))))
def l_X11_cheapestOf_39 (τ : gτ) (n : Nat) (x0 : Nat) (x1 : Int32) (x2 : Int32) (x3 : Int32) (x4 : Int32) (x5 : Int32) (x6 : Int32) (G : gG) : Option ((Int32 × Int32 × gG)) :=
  gIter (fun (q : Int32 × Int32 × Int32 × gG) => b_X11_cheapestOf_39 τ n x0 x1 q.1 q.2.1 x4 x5 q.2.2.1 q.2.2.2) n (x2, x3, x6, G)
def b_X11_cheapestOf_24 (τ : gτ) (n : Nat) (x0 : Nat) (x1 : Int32) (x2 : Int32) (x3 : Int32) (x4 : Int32) (x5 : Int32) (G : gG) : Option ((Int32 × Int32 × Int32 × gG) ⊕ ((Int32 × Int32 × gG))) :=
  (f_X11_yarns τ x0 G).bind fun v3 =>
  if v3 ≤ x5 then (some (.inr (x2, x3, G)))
  else (gLet (x5 + (1 : Int32)) fun v4 =>
  (l_X11_cheapestOf_39 τ n x0 x1 x2 x3 x4 x5 v4 G).bind fun q => gLet q.1 fun z20 => gLet q.2.1 fun z21 => gLet q.2.2 fun G22 => 
  gLet (x5 + 1) fun v23 =>
  some (.inl (z20, z21, v23, G22)))
def l_X11_cheapestOf_24 (τ : gτ) (n : Nat) (x0 : Nat) (x1 : Int32) (x2 : Int32) (x3 : Int32) (x4 : Int32) (x5 : Int32) (G : gG) : Option ((Int32 × Int32 × gG)) :=
  gIter (fun (q : Int32 × Int32 × Int32 × gG) => b_X11_cheapestOf_24 τ n x0 x1 q.1 q.2.1 x4 q.2.2.1 q.2.2.2) n (x2, x3, x5, G)
def b_X11_cheapestOf_9 (τ : gτ) (n : Nat) (x0 : Nat) (x1 : Int32) (x2 : Int32) (x3 : Int32) (x4 : Int32) (G : gG) : Option ((Int32 × Int32 × Int32 × gG) ⊕ ((Int32 × gG))) :=
  (f_X11_yarns τ x0 G).bind fun v1 =>
  if v1 ≤ x4 then (some (.inr (x2, G)))
  else (gLet (x4 + (1 : Int32)) fun v2 =>
  (l_X11_cheapestOf_24 τ n x0 x1 x2 x3 x4 v2 G).bind fun q => gLet q.1 fun z24 => gLet q.2.1 fun z25 => gLet q.2.2 fun G26 => 
  gLet (x4 + 1) fun v27 =>
  some (.inl (z24, z25, v27, G26)))
def l_X11_cheapestOf_9 (τ : gτ) (n : Nat) (x0 : Nat) (x1 : Int32) (x2 : Int32) (x3 : Int32) (x4 : Int32) (G : gG) : Option ((Int32 × gG)) :=
  gIter (fun (q : Int32 × Int32 × Int32 × gG) => b_X11_cheapestOf_9 τ n x0 x1 q.1 q.2.1 q.2.2.1 q.2.2.2) n (x2, x3, x4, G)
def f_X11_cheapestOf (τ : gτ) (n : Nat) (x0 : Nat) (x1 : Int32) (G : gG) : Option (Int32 × gG) :=
  (l_X11_cheapestOf_9 τ n x0 x1 (-1 : Int32) (1000000 : Int32) (0 : Int32) G).bind fun q => gLet q.1 fun z28 => gLet q.2 fun G29 => 
  some (z28, G29)
set_option maxHeartbeats 4000000 in
set_option maxRecDepth 100000 in
theorem w_b_X11_cheapestOf_39 {X : gX} {τ : gτ} {p : Program} {l : Launch} {e : Env} {s : State} {m : MethodId} {args : Array Value} {below : List Frame} {meth : Method} {c : Code} (fx : gFx X p s m args meth c cX11_cheapestOf 9 RX11) (n : Nat) (x0 : Nat) (x1 : Int32) (x2 : Int32) (x3 : Int32) (x4 : Int32) (x5 : Int32) (x6 : Int32) (h0 : gK τ x0 11) {Q : State → Prop} {K : ((Int32 × Int32 × Int32 × gG) ⊕ ((Int32 × Int32 × gG))) → Prop} {G : gG} {H : Heap} {locs : List Loc} {ls : Array Slot} (hw : gHw X τ G H locs) (hl : lv_has ls 9 [(0, .ref x0), (1, .int x1), (2, .int x2), (3, .int x3), (4, .int x4), (5, .int x5), (6, .int x6)]) (hok : gOk (b_X11_cheapestOf_39 τ n x0 x1 x2 x3 x4 x5 x6 G) K) (hc : ∀ (y2 : Int32) (y3 : Int32) (y6 : Int32) (G : gG) (H : Heap) (locs : List Loc) (ls : Array Slot), gHw X τ G H locs → lv_has ls 9 [(0, .ref x0), (1, .int x1), (2, .int y2), (3, .int y3), (4, .int x4), (5, .int x5), (6, .int y6)] → K (.inl (y2, y3, y6, G)) → W p l e rm_X11_cheapestOf s m args below meth c H locs 0 0 Q (F0 m 39 ls [])) (hx0 : ∀ (y2 : Int32) (y3 : Int32) (G : gG) (H : Heap) (locs : List Loc) (ls : Array Slot), gHw X τ G H locs → lv_has ls 9 [(0, .ref x0), (1, .int x1), (2, .int y2), (3, .int y3), (4, .int x4), (5, .int x5)] → K (.inr (y2, y3, G)) → W p l e rm_X11_cheapestOf s m args below meth c H locs 0 0 Q (F0 m 150 ls [])) : W p l e rm_X11_cheapestOf s m args below meth c H locs 0 0 Q (F0 m 39 ls []) := by
  unfold b_X11_cheapestOf_39 at hok
  refine lv_iload fx.1 fx.2.1 dX11_cheapestOf_39 (lv_at hl 6 rfl) ?_
  refine lv_aload_n fx.1 fx.2.1 dX11_cheapestOf_41 rfl (lv_at hl 0 rfl) ?_
  obtain ⟨v5, hf, hok⟩ := gOk_bind hok
  refine g_callV0 (κ := 11) fx hw (c_X11_yarns l X τ x0 G h0 hf) lv_RX11_65 ⟨rfl, rfl⟩ rfl rfl h0 rfl hl.1 rfl ⟨Nat.le_of_ble_eq_true rfl, Nat.le_of_ble_eq_true rfl⟩ (Nat.le_of_ble_eq_true rfl) ⟨Nat.le_of_ble_eq_true rfl, Nat.le_of_ble_eq_true rfl⟩ dX11_cheapestOf_42 (fun H locs hw => ?_)
  refine g_icmp_ge (tgt := 150) fx dX11_cheapestOf_45 (by decide) hok (fun hok => ?_) (fun hok => ?_)
  · exact hx0 x2 x3 G _ _ _  hw (lv_sub hl [0, 1, 2, 3, 4, 5] rfl) (gOk_some hok)
  · refine lv_aload_n fx.1 fx.2.1 dX11_cheapestOf_48 rfl (lv_at hl 0 rfl) ?_
    refine lv_iload_n fx.1 fx.2.1 dX11_cheapestOf_49 rfl (lv_at hl 1 rfl) ?_
    refine lv_iconst (v := 1) fx.1 fx.2.1 dX11_cheapestOf_50 (by decide) ?_
    obtain ⟨v6, hf, hok⟩ := gOk_bind hok
    refine g_callV0 (κ := 11) fx hw (c_X11_ofOrder l X τ x0 x1 (1 : Int32) G h0 hf) lv_RX11_336 ⟨rfl, rfl⟩ rfl rfl h0 rfl hl.1 rfl ⟨Nat.le_of_ble_eq_true rfl, Nat.le_of_ble_eq_true rfl⟩ (Nat.le_of_ble_eq_true rfl) ⟨Nat.le_of_ble_eq_true rfl, Nat.le_of_ble_eq_true rfl⟩ dX11_cheapestOf_51 (fun H locs hw => ?_)
    refine lv_istore (lv' := [(7, .int v6), (0, .ref x0), (1, .int x1), (2, .int x2), (3, .int x3), (4, .int x4), (5, .int x5), (6, .int x6)]) fx.1 fx.2.1 dX11_cheapestOf_54 hl (by decide) rfl (fun ls hl => ?_)
    refine lv_aload_n fx.1 fx.2.1 dX11_cheapestOf_56 rfl (lv_at hl 1 rfl) ?_
    refine lv_iload fx.1 fx.2.1 dX11_cheapestOf_57 (lv_at hl 5 rfl) ?_
    refine lv_iconst (v := 0) fx.1 fx.2.1 dX11_cheapestOf_59 (by decide) ?_
    obtain ⟨v7, hf, hok⟩ := gOk_bind hok
    refine g_callV0 (κ := 11) fx hw (c_X11_ofYarn l X τ x0 x4 (0 : Int32) G h0 hf) lv_RX11_132 ⟨rfl, rfl⟩ rfl rfl h0 rfl hl.1 rfl ⟨Nat.le_of_ble_eq_true rfl, Nat.le_of_ble_eq_true rfl⟩ (Nat.le_of_ble_eq_true rfl) ⟨Nat.le_of_ble_eq_true rfl, Nat.le_of_ble_eq_true rfl⟩ dX11_cheapestOf_60 (fun H locs hw => ?_)
    refine lv_aload_n fx.1 fx.2.1 dX11_cheapestOf_63 rfl (lv_at hl 1 rfl) ?_
    refine lv_iload fx.1 fx.2.1 dX11_cheapestOf_64 (lv_at hl 6 rfl) ?_
    refine lv_iconst (v := 0) fx.1 fx.2.1 dX11_cheapestOf_66 (by decide) ?_
    obtain ⟨v8, hf, hok⟩ := gOk_bind hok
    refine g_callV0 (κ := 11) fx hw (c_X11_ofYarn l X τ x0 x5 (0 : Int32) G h0 hf) lv_RX11_132 ⟨rfl, rfl⟩ rfl rfl h0 rfl hl.1 rfl ⟨Nat.le_of_ble_eq_true rfl, Nat.le_of_ble_eq_true rfl⟩ (Nat.le_of_ble_eq_true rfl) ⟨Nat.le_of_ble_eq_true rfl, Nat.le_of_ble_eq_true rfl⟩ dX11_cheapestOf_67 (fun H locs hw => ?_)
    refine lv_iadd fx.1 fx.2.1 dX11_cheapestOf_70 ?_
    refine lv_aload_n fx.1 fx.2.1 dX11_cheapestOf_71 rfl (lv_at hl 1 rfl) ?_
    refine lv_iload fx.1 fx.2.1 dX11_cheapestOf_72 (lv_at hl 7 rfl) ?_
    refine lv_iconst (v := 0) fx.1 fx.2.1 dX11_cheapestOf_74 (by decide) ?_
    obtain ⟨v9, hf, hok⟩ := gOk_bind hok
    refine g_callV0 (κ := 11) fx hw (c_X11_ofYarn l X τ x0 x6 (0 : Int32) G h0 hf) lv_RX11_132 ⟨rfl, rfl⟩ rfl rfl h0 rfl hl.1 rfl ⟨Nat.le_of_ble_eq_true rfl, Nat.le_of_ble_eq_true rfl⟩ (Nat.le_of_ble_eq_true rfl) ⟨Nat.le_of_ble_eq_true rfl, Nat.le_of_ble_eq_true rfl⟩ dX11_cheapestOf_75 (fun H locs hw => ?_)
    refine lv_iadd fx.1 fx.2.1 dX11_cheapestOf_78 ?_
    refine g_leti hok (fun v10 hok => ?_)
    refine lv_istore (lv' := [(8, .int v10), (7, .int v6), (0, .ref x0), (1, .int x1), (2, .int x2), (3, .int x3), (4, .int x4), (5, .int x5), (6, .int x6)]) fx.1 fx.2.1 dX11_cheapestOf_79 hl (by decide) rfl (fun ls hl => ?_)
    refine lv_iload fx.1 fx.2.1 dX11_cheapestOf_81 (lv_at hl 0 rfl) ?_
    refine lv_iload_n fx.1 fx.2.1 dX11_cheapestOf_83 rfl (lv_at hl 5 rfl) ?_
    refine g_icmp_ge (tgt := 144) fx dX11_cheapestOf_84 (by decide) hok (fun hok => ?_) (fun hok => ?_)
    · obtain ⟨v11, e_v11, hok⟩ := gOk_let hok
      refine lv_iinc (v := v11) (lv' := [(6, .int v11), (8, .int v10), (7, .int v6), (0, .ref x0), (1, .int x1), (2, .int x2), (3, .int x3), (4, .int x4), (5, .int x5)]) fx.1 fx.2.1 dX11_cheapestOf_144 hl (k := 8) rfl (by rw [e_v11]; rfl) (by decide) rfl (fun ls hl => ?_)
      refine lv_goto (tgt := 39) fx.1 fx.2.1 dX11_cheapestOf_147 (by decide) ?_
      exact hc x2 x3 v11 G _ _ _  hw (lv_sub hl [3, 4, 5, 6, 7, 8, 0] rfl) (gOk_some hok)
    · refine lv_aload_n fx.1 fx.2.1 dX11_cheapestOf_87 rfl (lv_at hl 2 rfl) ?_
      refine lv_iload fx.1 fx.2.1 dX11_cheapestOf_88 (lv_at hl 6 rfl) ?_
      refine lv_iload fx.1 fx.2.1 dX11_cheapestOf_90 (lv_at hl 7 rfl) ?_
      refine lv_iload fx.1 fx.2.1 dX11_cheapestOf_92 (lv_at hl 8 rfl) ?_
      refine lv_iload fx.1 fx.2.1 dX11_cheapestOf_94 (lv_at hl 1 rfl) ?_
      obtain ⟨v12, hf, hok⟩ := gOk_bind hok
      refine g_callV0 (κ := 11) fx hw (c_X11_haveLength l X τ x0 x4 x5 x6 v6 G h0 hf) lv_RX11_375 ⟨rfl, rfl⟩ rfl rfl h0 rfl hl.1 rfl ⟨Nat.le_of_ble_eq_true rfl, Nat.le_of_ble_eq_true rfl⟩ (Nat.le_of_ble_eq_true rfl) ⟨Nat.le_of_ble_eq_true rfl, Nat.le_of_ble_eq_true rfl⟩ dX11_cheapestOf_96 (fun H locs hw => ?_)
      refine g_if_eq (tgt := 144) fx dX11_cheapestOf_99 (by decide) hok (fun hok => ?_) (fun hok => ?_)
      · obtain ⟨v13, e_v13, hok⟩ := gOk_let hok
        refine lv_iinc (v := v13) (lv' := [(6, .int v13), (8, .int v10), (7, .int v6), (0, .ref x0), (1, .int x1), (2, .int x2), (3, .int x3), (4, .int x4), (5, .int x5)]) fx.1 fx.2.1 dX11_cheapestOf_144 hl (k := 8) rfl (by rw [e_v13]; rfl) (by decide) rfl (fun ls hl => ?_)
        refine lv_goto (tgt := 39) fx.1 fx.2.1 dX11_cheapestOf_147 (by decide) ?_
        exact hc x2 x3 v13 G _ _ _  hw (lv_sub hl [3, 4, 5, 6, 7, 8, 0] rfl) (gOk_some hok)
      · refine lv_aload_n fx.1 fx.2.1 dX11_cheapestOf_102 rfl (lv_at hl 2 rfl) ?_
        refine lv_iload fx.1 fx.2.1 dX11_cheapestOf_103 (lv_at hl 6 rfl) ?_
        refine lv_iload fx.1 fx.2.1 dX11_cheapestOf_105 (lv_at hl 7 rfl) ?_
        refine lv_iload fx.1 fx.2.1 dX11_cheapestOf_107 (lv_at hl 8 rfl) ?_
        refine lv_iload fx.1 fx.2.1 dX11_cheapestOf_109 (lv_at hl 1 rfl) ?_
        obtain ⟨v14, G15, hf, hok⟩ := gOk_bind2 hok
        refine g_callV0 (κ := 11) fx hw (c_X11_bearsBy l X τ n x0 x4 x5 x6 v6 G h0 hf) lv_RX11_342 ⟨rfl, rfl⟩ rfl rfl h0 rfl hl.1 rfl ⟨Nat.le_of_ble_eq_true rfl, Nat.le_of_ble_eq_true rfl⟩ (Nat.le_of_ble_eq_true rfl) ⟨Nat.le_of_ble_eq_true rfl, Nat.le_of_ble_eq_true rfl⟩ dX11_cheapestOf_111 (fun H locs hw => ?_)
        refine lv_aload_n fx.1 fx.2.1 dX11_cheapestOf_114 rfl (lv_at hl 2 rfl) ?_
        refine lv_iload_n fx.1 fx.2.1 dX11_cheapestOf_115 rfl (lv_at hl 3 rfl) ?_
        refine lv_iconst (v := 0) fx.1 fx.2.1 dX11_cheapestOf_116 (by decide) ?_
        obtain ⟨v16, hf, hok⟩ := gOk_bind hok
        refine g_callV0 (κ := 11) fx hw (c_X11_ofOrder l X τ x0 x1 (0 : Int32) G15 h0 hf) lv_RX11_336 ⟨rfl, rfl⟩ rfl rfl h0 rfl hl.1 rfl ⟨Nat.le_of_ble_eq_true rfl, Nat.le_of_ble_eq_true rfl⟩ (Nat.le_of_ble_eq_true rfl) ⟨Nat.le_of_ble_eq_true rfl, Nat.le_of_ble_eq_true rfl⟩ dX11_cheapestOf_117 (fun H locs hw => ?_)
        refine g_icmp_ge (tgt := 126) fx dX11_cheapestOf_120 (by decide) hok (fun hok => ?_) (fun hok => ?_)
        · refine lv_bipush (v := 100) fx.1 fx.2.1 dX11_cheapestOf_126 (by decide) ?_
          refine lv_iload fx.1 fx.2.1 dX11_cheapestOf_128 (lv_at hl 6 rfl) ?_
          refine lv_imul fx.1 fx.2.1 dX11_cheapestOf_130 ?_
          refine lv_bipush (v := 10) fx.1 fx.2.1 dX11_cheapestOf_131 (by decide) ?_
          refine lv_iload fx.1 fx.2.1 dX11_cheapestOf_133 (lv_at hl 7 rfl) ?_
          refine lv_imul fx.1 fx.2.1 dX11_cheapestOf_135 ?_
          refine lv_iadd fx.1 fx.2.1 dX11_cheapestOf_136 ?_
          refine lv_iload fx.1 fx.2.1 dX11_cheapestOf_137 (lv_at hl 8 rfl) ?_
          refine lv_iadd fx.1 fx.2.1 dX11_cheapestOf_139 ?_
          refine g_leti hok (fun v17 hok => ?_)
          refine lv_istore_n (lv' := [(2, .int v17), (8, .int v10), (7, .int v6), (0, .ref x0), (1, .int x1), (3, .int x3), (4, .int x4), (5, .int x5), (6, .int x6)]) fx.1 fx.2.1 dX11_cheapestOf_140 rfl hl (by decide) rfl (fun ls hl => ?_)
          refine lv_iload fx.1 fx.2.1 dX11_cheapestOf_141 (lv_at hl 1 rfl) ?_
          refine lv_istore_n (lv' := [(3, .int v10), (2, .int v17), (8, .int v10), (7, .int v6), (0, .ref x0), (1, .int x1), (4, .int x4), (5, .int x5), (6, .int x6)]) fx.1 fx.2.1 dX11_cheapestOf_143 rfl hl (by decide) rfl (fun ls hl => ?_)
          obtain ⟨v18, e_v18, hok⟩ := gOk_let hok
          refine lv_iinc (v := v18) (lv' := [(6, .int v18), (3, .int v10), (2, .int v17), (8, .int v10), (7, .int v6), (0, .ref x0), (1, .int x1), (4, .int x4), (5, .int x5)]) fx.1 fx.2.1 dX11_cheapestOf_144 hl (k := 8) rfl (by rw [e_v18]; rfl) (by decide) rfl (fun ls hl => ?_)
          refine lv_goto (tgt := 39) fx.1 fx.2.1 dX11_cheapestOf_147 (by decide) ?_
          exact hc v17 v10 v18 G15 _ _ _  hw (lv_sub hl [5, 6, 2, 1, 7, 8, 0] rfl) (gOk_some hok)
        · refine lv_goto (tgt := 144) fx.1 fx.2.1 dX11_cheapestOf_123 (by decide) ?_
          obtain ⟨v19, e_v19, hok⟩ := gOk_let hok
          refine lv_iinc (v := v19) (lv' := [(6, .int v19), (8, .int v10), (7, .int v6), (0, .ref x0), (1, .int x1), (2, .int x2), (3, .int x3), (4, .int x4), (5, .int x5)]) fx.1 fx.2.1 dX11_cheapestOf_144 hl (k := 8) rfl (by rw [e_v19]; rfl) (by decide) rfl (fun ls hl => ?_)
          refine lv_goto (tgt := 39) fx.1 fx.2.1 dX11_cheapestOf_147 (by decide) ?_
          exact hc x2 x3 v19 G15 _ _ _  hw (lv_sub hl [3, 4, 5, 6, 7, 8, 0] rfl) (gOk_some hok)
theorem w_l_X11_cheapestOf_39 {X : gX} {τ : gτ} {p : Program} {l : Launch} {e : Env} {s : State} {m : MethodId} {args : Array Value} {below : List Frame} {meth : Method} {c : Code} (fx : gFx X p s m args meth c cX11_cheapestOf 9 RX11) (n : Nat) (x0 : Nat) (x1 : Int32) (x4 : Int32) (x5 : Int32) (h0 : gK τ x0 11) {Q : State → Prop} {K : ((Int32 × Int32 × gG)) → Prop} (hx0 : ∀ (y2 : Int32) (y3 : Int32) (G : gG) (H : Heap) (locs : List Loc) (ls : Array Slot), gHw X τ G H locs → lv_has ls 9 [(0, .ref x0), (1, .int x1), (2, .int y2), (3, .int y3), (4, .int x4), (5, .int x5)] → K (y2, y3, G) → W p l e rm_X11_cheapestOf s m args below meth c H locs 0 0 Q (F0 m 150 ls [])) : ∀ (k : Nat) (x2 : Int32) (x3 : Int32) (x6 : Int32) (G : gG) (H : Heap) (locs : List Loc) (ls : Array Slot), gHw X τ G H locs → lv_has ls 9 [(0, .ref x0), (1, .int x1), (2, .int x2), (3, .int x3), (4, .int x4), (5, .int x5), (6, .int x6)] → gOk (gIter (fun (q : Int32 × Int32 × Int32 × gG) => b_X11_cheapestOf_39 τ n x0 x1 q.1 q.2.1 x4 x5 q.2.2.1 q.2.2.2) k (x2, x3, x6, G)) K → W p l e rm_X11_cheapestOf s m args below meth c H locs 0 0 Q (F0 m 39 ls []) := by
  intro k
  induction k with
  | zero =>
    intro x2 x3 x6 G H locs ls hw hl hok
    exact gOk_iter0 hok
  | succ k hc =>
    intro x2 x3 x6 G H locs ls hw hl hok
    exact w_b_X11_cheapestOf_39 fx n x0 x1 x2 x3 x4 x5 x6 h0 hw hl (gOk_iter hok) hc hx0
set_option maxHeartbeats 4000000 in
set_option maxRecDepth 100000 in
theorem w_b_X11_cheapestOf_24 {X : gX} {τ : gτ} {p : Program} {l : Launch} {e : Env} {s : State} {m : MethodId} {args : Array Value} {below : List Frame} {meth : Method} {c : Code} (fx : gFx X p s m args meth c cX11_cheapestOf 9 RX11) (n : Nat) (x0 : Nat) (x1 : Int32) (x2 : Int32) (x3 : Int32) (x4 : Int32) (x5 : Int32) (h0 : gK τ x0 11) {Q : State → Prop} {K : ((Int32 × Int32 × Int32 × gG) ⊕ ((Int32 × Int32 × gG))) → Prop} {G : gG} {H : Heap} {locs : List Loc} {ls : Array Slot} (hw : gHw X τ G H locs) (hl : lv_has ls 9 [(0, .ref x0), (1, .int x1), (2, .int x2), (3, .int x3), (4, .int x4), (5, .int x5)]) (hok : gOk (b_X11_cheapestOf_24 τ n x0 x1 x2 x3 x4 x5 G) K) (hc : ∀ (y2 : Int32) (y3 : Int32) (y5 : Int32) (G : gG) (H : Heap) (locs : List Loc) (ls : Array Slot), gHw X τ G H locs → lv_has ls 9 [(0, .ref x0), (1, .int x1), (2, .int y2), (3, .int y3), (4, .int x4), (5, .int y5)] → K (.inl (y2, y3, y5, G)) → W p l e rm_X11_cheapestOf s m args below meth c H locs 0 0 Q (F0 m 24 ls [])) (hx0 : ∀ (y2 : Int32) (y3 : Int32) (G : gG) (H : Heap) (locs : List Loc) (ls : Array Slot), gHw X τ G H locs → lv_has ls 9 [(0, .ref x0), (1, .int x1), (2, .int y2), (3, .int y3), (4, .int x4)] → K (.inr (y2, y3, G)) → W p l e rm_X11_cheapestOf s m args below meth c H locs 0 0 Q (F0 m 156 ls [])) : W p l e rm_X11_cheapestOf s m args below meth c H locs 0 0 Q (F0 m 24 ls []) := by
  unfold b_X11_cheapestOf_24 at hok
  refine lv_iload fx.1 fx.2.1 dX11_cheapestOf_24 (lv_at hl 5 rfl) ?_
  refine lv_aload_n fx.1 fx.2.1 dX11_cheapestOf_26 rfl (lv_at hl 0 rfl) ?_
  obtain ⟨v3, hf, hok⟩ := gOk_bind hok
  refine g_callV0 (κ := 11) fx hw (c_X11_yarns l X τ x0 G h0 hf) lv_RX11_65 ⟨rfl, rfl⟩ rfl rfl h0 rfl hl.1 rfl ⟨Nat.le_of_ble_eq_true rfl, Nat.le_of_ble_eq_true rfl⟩ (Nat.le_of_ble_eq_true rfl) ⟨Nat.le_of_ble_eq_true rfl, Nat.le_of_ble_eq_true rfl⟩ dX11_cheapestOf_27 (fun H locs hw => ?_)
  refine g_icmp_ge (tgt := 156) fx dX11_cheapestOf_30 (by decide) hok (fun hok => ?_) (fun hok => ?_)
  · exact hx0 x2 x3 G _ _ _  hw (lv_sub hl [0, 1, 2, 3, 4] rfl) (gOk_some hok)
  · refine lv_iload fx.1 fx.2.1 dX11_cheapestOf_33 (lv_at hl 5 rfl) ?_
    refine lv_iconst (v := 1) fx.1 fx.2.1 dX11_cheapestOf_35 (by decide) ?_
    refine lv_iadd fx.1 fx.2.1 dX11_cheapestOf_36 ?_
    refine g_leti hok (fun v4 hok => ?_)
    refine lv_istore (lv' := [(6, .int v4), (0, .ref x0), (1, .int x1), (2, .int x2), (3, .int x3), (4, .int x4), (5, .int x5)]) fx.1 fx.2.1 dX11_cheapestOf_37 hl (by decide) rfl (fun ls hl => ?_)
    refine w_l_X11_cheapestOf_39 fx n x0 x1 x4 x5 h0 ?_ n x2 x3 v4 G _ _ _  hw (lv_sub hl [1, 2, 3, 4, 5, 6, 0] rfl) (gOk_bindK hok)
    intro z20 z21 G22 H locs ls hw hl hok
    have hok : gOk (ρ := (Int32 × Int32 × Int32 × gG) ⊕ ((Int32 × Int32 × gG))) (gLet (x5 + 1) fun v23 =>   some (.inl (z20, z21, v23, G22))) _ := hok
    obtain ⟨v23, e_v23, hok⟩ := gOk_let hok
    refine lv_iinc (v := v23) (lv' := [(5, .int v23), (0, .ref x0), (1, .int x1), (2, .int z20), (3, .int z21), (4, .int x4)]) fx.1 fx.2.1 dX11_cheapestOf_150 hl (k := 5) rfl (by rw [e_v23]; rfl) (by decide) rfl (fun ls hl => ?_)
    refine lv_goto (tgt := 24) fx.1 fx.2.1 dX11_cheapestOf_153 (by decide) ?_
    exact hc z20 z21 v23 G22 _ _ _  hw (lv_sub hl [1, 2, 3, 4, 5, 0] rfl) (gOk_some hok)
theorem w_l_X11_cheapestOf_24 {X : gX} {τ : gτ} {p : Program} {l : Launch} {e : Env} {s : State} {m : MethodId} {args : Array Value} {below : List Frame} {meth : Method} {c : Code} (fx : gFx X p s m args meth c cX11_cheapestOf 9 RX11) (n : Nat) (x0 : Nat) (x1 : Int32) (x4 : Int32) (h0 : gK τ x0 11) {Q : State → Prop} {K : ((Int32 × Int32 × gG)) → Prop} (hx0 : ∀ (y2 : Int32) (y3 : Int32) (G : gG) (H : Heap) (locs : List Loc) (ls : Array Slot), gHw X τ G H locs → lv_has ls 9 [(0, .ref x0), (1, .int x1), (2, .int y2), (3, .int y3), (4, .int x4)] → K (y2, y3, G) → W p l e rm_X11_cheapestOf s m args below meth c H locs 0 0 Q (F0 m 156 ls [])) : ∀ (k : Nat) (x2 : Int32) (x3 : Int32) (x5 : Int32) (G : gG) (H : Heap) (locs : List Loc) (ls : Array Slot), gHw X τ G H locs → lv_has ls 9 [(0, .ref x0), (1, .int x1), (2, .int x2), (3, .int x3), (4, .int x4), (5, .int x5)] → gOk (gIter (fun (q : Int32 × Int32 × Int32 × gG) => b_X11_cheapestOf_24 τ n x0 x1 q.1 q.2.1 x4 q.2.2.1 q.2.2.2) k (x2, x3, x5, G)) K → W p l e rm_X11_cheapestOf s m args below meth c H locs 0 0 Q (F0 m 24 ls []) := by
  intro k
  induction k with
  | zero =>
    intro x2 x3 x5 G H locs ls hw hl hok
    exact gOk_iter0 hok
  | succ k hc =>
    intro x2 x3 x5 G H locs ls hw hl hok
    exact w_b_X11_cheapestOf_24 fx n x0 x1 x2 x3 x4 x5 h0 hw hl (gOk_iter hok) hc hx0
set_option maxHeartbeats 4000000 in
set_option maxRecDepth 100000 in
theorem w_b_X11_cheapestOf_9 {X : gX} {τ : gτ} {p : Program} {l : Launch} {e : Env} {s : State} {m : MethodId} {args : Array Value} {below : List Frame} {meth : Method} {c : Code} (fx : gFx X p s m args meth c cX11_cheapestOf 9 RX11) (n : Nat) (x0 : Nat) (x1 : Int32) (x2 : Int32) (x3 : Int32) (x4 : Int32) (h0 : gK τ x0 11) {Q : State → Prop} {K : ((Int32 × Int32 × Int32 × gG) ⊕ ((Int32 × gG))) → Prop} {G : gG} {H : Heap} {locs : List Loc} {ls : Array Slot} (hw : gHw X τ G H locs) (hl : lv_has ls 9 [(0, .ref x0), (1, .int x1), (2, .int x2), (3, .int x3), (4, .int x4)]) (hok : gOk (b_X11_cheapestOf_9 τ n x0 x1 x2 x3 x4 G) K) (hc : ∀ (y2 : Int32) (y3 : Int32) (y4 : Int32) (G : gG) (H : Heap) (locs : List Loc) (ls : Array Slot), gHw X τ G H locs → lv_has ls 9 [(0, .ref x0), (1, .int x1), (2, .int y2), (3, .int y3), (4, .int y4)] → K (.inl (y2, y3, y4, G)) → W p l e rm_X11_cheapestOf s m args below meth c H locs 0 0 Q (F0 m 9 ls [])) (hx0 : ∀ (y2 : Int32) (G : gG) (H : Heap) (locs : List Loc) (ls : Array Slot), gHw X τ G H locs → lv_has ls 9 [(2, .int y2)] → K (.inr (y2, G)) → W p l e rm_X11_cheapestOf s m args below meth c H locs 0 0 Q (F0 m 162 ls [])) : W p l e rm_X11_cheapestOf s m args below meth c H locs 0 0 Q (F0 m 9 ls []) := by
  unfold b_X11_cheapestOf_9 at hok
  refine lv_iload fx.1 fx.2.1 dX11_cheapestOf_9 (lv_at hl 4 rfl) ?_
  refine lv_aload_n fx.1 fx.2.1 dX11_cheapestOf_11 rfl (lv_at hl 0 rfl) ?_
  obtain ⟨v1, hf, hok⟩ := gOk_bind hok
  refine g_callV0 (κ := 11) fx hw (c_X11_yarns l X τ x0 G h0 hf) lv_RX11_65 ⟨rfl, rfl⟩ rfl rfl h0 rfl hl.1 rfl ⟨Nat.le_of_ble_eq_true rfl, Nat.le_of_ble_eq_true rfl⟩ (Nat.le_of_ble_eq_true rfl) ⟨Nat.le_of_ble_eq_true rfl, Nat.le_of_ble_eq_true rfl⟩ dX11_cheapestOf_12 (fun H locs hw => ?_)
  refine g_icmp_ge (tgt := 162) fx dX11_cheapestOf_15 (by decide) hok (fun hok => ?_) (fun hok => ?_)
  · exact hx0 x2 G _ _ _  hw (lv_sub hl [2] rfl) (gOk_some hok)
  · refine lv_iload fx.1 fx.2.1 dX11_cheapestOf_18 (lv_at hl 4 rfl) ?_
    refine lv_iconst (v := 1) fx.1 fx.2.1 dX11_cheapestOf_20 (by decide) ?_
    refine lv_iadd fx.1 fx.2.1 dX11_cheapestOf_21 ?_
    refine g_leti hok (fun v2 hok => ?_)
    refine lv_istore (lv' := [(5, .int v2), (0, .ref x0), (1, .int x1), (2, .int x2), (3, .int x3), (4, .int x4)]) fx.1 fx.2.1 dX11_cheapestOf_22 hl (by decide) rfl (fun ls hl => ?_)
    refine w_l_X11_cheapestOf_24 fx n x0 x1 x4 h0 ?_ n x2 x3 v2 G _ _ _  hw (lv_sub hl [1, 2, 3, 4, 5, 0] rfl) (gOk_bindK hok)
    intro z24 z25 G26 H locs ls hw hl hok
    have hok : gOk (ρ := (Int32 × Int32 × Int32 × gG) ⊕ ((Int32 × gG))) (gLet (x4 + 1) fun v27 =>   some (.inl (z24, z25, v27, G26))) _ := hok
    obtain ⟨v27, e_v27, hok⟩ := gOk_let hok
    refine lv_iinc (v := v27) (lv' := [(4, .int v27), (0, .ref x0), (1, .int x1), (2, .int z24), (3, .int z25)]) fx.1 fx.2.1 dX11_cheapestOf_156 hl (k := 4) rfl (by rw [e_v27]; rfl) (by decide) rfl (fun ls hl => ?_)
    refine lv_goto (tgt := 9) fx.1 fx.2.1 dX11_cheapestOf_159 (by decide) ?_
    exact hc z24 z25 v27 G26 _ _ _  hw (lv_sub hl [1, 2, 3, 4, 0] rfl) (gOk_some hok)
theorem w_l_X11_cheapestOf_9 {X : gX} {τ : gτ} {p : Program} {l : Launch} {e : Env} {s : State} {m : MethodId} {args : Array Value} {below : List Frame} {meth : Method} {c : Code} (fx : gFx X p s m args meth c cX11_cheapestOf 9 RX11) (n : Nat) (x0 : Nat) (x1 : Int32) (h0 : gK τ x0 11) {Q : State → Prop} {K : ((Int32 × gG)) → Prop} (hx0 : ∀ (y2 : Int32) (G : gG) (H : Heap) (locs : List Loc) (ls : Array Slot), gHw X τ G H locs → lv_has ls 9 [(2, .int y2)] → K (y2, G) → W p l e rm_X11_cheapestOf s m args below meth c H locs 0 0 Q (F0 m 162 ls [])) : ∀ (k : Nat) (x2 : Int32) (x3 : Int32) (x4 : Int32) (G : gG) (H : Heap) (locs : List Loc) (ls : Array Slot), gHw X τ G H locs → lv_has ls 9 [(0, .ref x0), (1, .int x1), (2, .int x2), (3, .int x3), (4, .int x4)] → gOk (gIter (fun (q : Int32 × Int32 × Int32 × gG) => b_X11_cheapestOf_9 τ n x0 x1 q.1 q.2.1 q.2.2.1 q.2.2.2) k (x2, x3, x4, G)) K → W p l e rm_X11_cheapestOf s m args below meth c H locs 0 0 Q (F0 m 9 ls []) := by
  intro k
  induction k with
  | zero =>
    intro x2 x3 x4 G H locs ls hw hl hok
    exact gOk_iter0 hok
  | succ k hc =>
    intro x2 x3 x4 G H locs ls hw hl hok
    exact w_b_X11_cheapestOf_9 fx n x0 x1 x2 x3 x4 h0 hw hl (gOk_iter hok) hc hx0
set_option maxHeartbeats 4000000 in
set_option maxRecDepth 100000 in
theorem c_X11_cheapestOf (l : Launch) (X : gX) (τ : gτ) (n : Nat) (x0 : Nat) (x1 : Int32) (G : gG) (h0 : gK τ x0 11) {r : Int32} {G' : gG} (h : f_X11_cheapestOf τ n x0 x1 G = some (r, G')) : gM l X τ yX11_cheapestOf cX11_cheapestOf 9 (some .int) rm_X11_cheapestOf [.ref x0, .int x1] G (some (.int r)) G' := by
  refine g_body (by decide +kernel) (Nat.le_of_ble_eq_true rfl) ?_
  intro p e s m args below meth c ls fx hr hw hl
  have fx : gFx X p s m args meth c cX11_cheapestOf 9 RX11 := fx
  have hl : lv_has ls 9 [(0, .ref x0), (1, .int x1)] := hl
  have hok : gOk (f_X11_cheapestOf τ n x0 x1 G) (fun q => q = (r, G')) := ⟨_, h, rfl⟩
  unfold f_X11_cheapestOf at hok
  show W p l e rm_X11_cheapestOf s m args below meth c s.heap [] 0 0 (MQ below (gQ X τ (some (.int r)) G') args s 0 0 (gFree X)) _
  refine lv_iconst (v := (-1)) fx.1 fx.2.1 dX11_cheapestOf_0 (by decide) ?_
  refine lv_istore_n (lv' := [(2, .int (-1 : Int32)), (0, .ref x0), (1, .int x1)]) fx.1 fx.2.1 dX11_cheapestOf_1 rfl hl (by decide) rfl (fun ls hl => ?_)
  refine lv_ldcw fx.1 fx.2.1 fx.2.2.2.1 (fx.2.2.2.2.1 _ lc_RX11_379) dX11_cheapestOf_2 ?_
  refine lv_istore_n (lv' := [(3, .int (1000000 : Int32)), (2, .int (-1 : Int32)), (0, .ref x0), (1, .int x1)]) fx.1 fx.2.1 dX11_cheapestOf_5 rfl hl (by decide) rfl (fun ls hl => ?_)
  refine lv_iconst (v := 0) fx.1 fx.2.1 dX11_cheapestOf_6 (by decide) ?_
  refine lv_istore (lv' := [(4, .int (0 : Int32)), (3, .int (1000000 : Int32)), (2, .int (-1 : Int32)), (0, .ref x0), (1, .int x1)]) fx.1 fx.2.1 dX11_cheapestOf_7 hl (by decide) rfl (fun ls hl => ?_)
  refine w_l_X11_cheapestOf_9 fx n x0 x1 h0 ?_ n (-1 : Int32) (1000000 : Int32) (0 : Int32) G _ _ _  hw (lv_sub hl [3, 4, 2, 1, 0] rfl) (gOk_bindK hok)
  intro z28 G29 H locs ls hw hl hok
  have hok : gOk (ρ := Int32 × gG) (some (z28, G29)) _ := hok
  refine lv_iload_n fx.1 fx.2.1 dX11_cheapestOf_162 rfl (lv_at hl 0 rfl) ?_
  cases gOk_some hok
  exact g_iret fx hw hr dX11_cheapestOf_163
