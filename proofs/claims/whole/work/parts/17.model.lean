theorem dX11_readNumber_0 : decode cX11_readNumber 0 = .ok (.aload_n 0, 1) := by decide +kernel
theorem dX11_readNumber_1 : decode cX11_readNumber 1 = .ok (.iconst 0, 1) := by decide +kernel
theorem dX11_readNumber_2 : decode cX11_readNumber 2 = .ok (.bipush 100, 2) := by decide +kernel
theorem dX11_readNumber_4 : decode cX11_readNumber 4 = .ok (.invokevirtual 115, 3) := by decide +kernel
theorem dX11_readNumber_7 : decode cX11_readNumber 7 = .ok (.istore_n 2, 1) := by decide +kernel
theorem dX11_readNumber_8 : decode cX11_readNumber 8 = .ok (.aload_n 0, 1) := by decide +kernel
theorem dX11_readNumber_9 : decode cX11_readNumber 9 = .ok (.getfield 13, 3) := by decide +kernel
theorem dX11_readNumber_12 : decode cX11_readNumber 12 = .ok (.iload_n 1, 1) := by decide +kernel
theorem dX11_readNumber_13 : decode cX11_readNumber 13 = .ok (.iload_n 2, 1) := by decide +kernel
theorem dX11_readNumber_14 : decode cX11_readNumber 14 = .ok (.ifCond .ge 12, 3) := by decide +kernel
theorem dX11_readNumber_17 : decode cX11_readNumber 17 = .ok (.aload_n 0, 1) := by decide +kernel
theorem dX11_readNumber_18 : decode cX11_readNumber 18 = .ok (.getfield 13, 3) := by decide +kernel
theorem dX11_readNumber_21 : decode cX11_readNumber 21 = .ok (.iload_n 1, 1) := by decide +kernel
theorem dX11_readNumber_22 : decode cX11_readNumber 22 = .ok (.iaload, 1) := by decide +kernel
theorem dX11_readNumber_23 : decode cX11_readNumber 23 = .ok (.goto 4, 3) := by decide +kernel
theorem dX11_readNumber_26 : decode cX11_readNumber 26 = .ok (.iload_n 2, 1) := by decide +kernel
theorem dX11_readNumber_27 : decode cX11_readNumber 27 = .ok (.iastore, 1) := by decide +kernel
theorem dX11_readNumber_28 : decode cX11_readNumber 28 = .ok (.iload_n 2, 1) := by decide +kernel
theorem dX11_readNumber_29 : decode cX11_readNumber 29 = .ok (.ifCond .lt 7, 3) := by decide +kernel
theorem dX11_readNumber_32 : decode cX11_readNumber 32 = .ok (.iconst 1, 1) := by decide +kernel
theorem dX11_readNumber_33 : decode cX11_readNumber 33 = .ok (.goto 4, 3) := by decide +kernel
theorem dX11_readNumber_36 : decode cX11_readNumber 36 = .ok (.iconst 0, 1) := by decide +kernel
theorem dX11_readNumber_37 : decode cX11_readNumber 37 = .ok (.ireturn, 1) := by decide +kernel
def rm_X11_readNumber : Room := { frames := 3, cells := 0, slots := 0, locals := 65 }
def k_X11_readNumber_27 (τ : gτ) (n : Nat) (x2 : Int32) (s0 : Nat) (s1 : Int32) (s2 : Int32) (G : gG) : Option (Int32 × gG) :=
  gchk (gIn s1 (gn τ s0)) <| gLet (gse G s0 (Int32.toNatClampNeg s1) s2) fun G4 =>
  if x2 < 0 then (some (0, G4))
  else (some (1, G4))
def f_X11_readNumber (τ : gτ) (n : Nat) (x0 : Nat) (x1 : Int32) (G : gG) : Option (Int32 × gG) :=
  gBind2 (f_X11_number τ n x0 (0 : Int32) (100 : Int32) G) fun v1 G2 =>
  (gr G2 11 1 x0).bind fun a3 =>
  if 0 ≤ v1 then (k_X11_readNumber_27 τ n v1 a3 x1 v1 G2)
  else ((gr G2 11 1 x0).bind fun a5 =>
  gchk (gIn x1 (gn τ a5)) <|
  k_X11_readNumber_27 τ n v1 a3 x1 (ge G2 a5 (Int32.toNatClampNeg x1)) G2)
set_option maxHeartbeats 4000000 in
set_option maxRecDepth 100000 in
theorem w_X11_readNumber_27 {X : gX} {τ : gτ} {p : Program} {l : Launch} {e : Env} {s : State} {m : MethodId} {args : Array Value} {below : List Frame} {meth : Method} {c : Code} (fx : gFx X p s m args meth c cX11_readNumber 3 RX11) (n : Nat) (x2 : Int32) (s0 : Nat) (s1 : Int32) (s2 : Int32)  (hs0 : gK τ s0 13) (hr : meth.sig.returnType = (some .boolean)) {r : Int32} {G' : gG} {G : gG} {H : Heap} {locs : List Loc} {ls : Array Slot} (hw : gHw X τ G H locs) (hl : lv_has ls 3 [(2, .int x2)]) (hok : gOk (k_X11_readNumber_27 τ n x2 s0 s1 s2 G) (fun q => q = (r, G')))  : W p l e rm_X11_readNumber s m args below meth c H locs 0 0 (MQ below (gQ X τ (some (.int r)) G') args s 0 0 (gFree X)) (F0 m 27 ls [.int s2, .int s1, .ref s0]) := by
  unfold k_X11_readNumber_27 at hok
  refine g_iast fx hw hs0 dX11_readNumber_27 hok (fun G4 H locs hw hok => ?_)
  refine lv_iload_n fx.1 fx.2.1 dX11_readNumber_28 rfl (lv_at hl 0 rfl) ?_
  refine g_if_lt (tgt := 36) fx dX11_readNumber_29 (by decide) hok (fun hok => ?_) (fun hok => ?_)
  · refine lv_iconst (v := 0) fx.1 fx.2.1 dX11_readNumber_36 (by decide) ?_
    cases gOk_some hok
    exact g_zret fx hw hr (by decide) dX11_readNumber_37
  · refine lv_iconst (v := 1) fx.1 fx.2.1 dX11_readNumber_32 (by decide) ?_
    refine lv_goto (tgt := 37) fx.1 fx.2.1 dX11_readNumber_33 (by decide) ?_
    cases gOk_some hok
    exact g_zret fx hw hr (by decide) dX11_readNumber_37
set_option maxHeartbeats 4000000 in
set_option maxRecDepth 100000 in
theorem c_X11_readNumber (l : Launch) (X : gX) (τ : gτ) (n : Nat) (x0 : Nat) (x1 : Int32) (G : gG) (h0 : gK τ x0 11) {r : Int32} {G' : gG} (h : f_X11_readNumber τ n x0 x1 G = some (r, G')) : gM l X τ yX11_readNumber cX11_readNumber 3 (some .boolean) rm_X11_readNumber [.ref x0, .int x1] G (some (.int r)) G' := by
  refine g_body (by decide +kernel) (Nat.le_of_ble_eq_true rfl) ?_
  intro p e s m args below meth c ls fx hr hw hl
  have fx : gFx X p s m args meth c cX11_readNumber 3 RX11 := fx
  have hl : lv_has ls 3 [(0, .ref x0), (1, .int x1)] := hl
  have hok : gOk (f_X11_readNumber τ n x0 x1 G) (fun q => q = (r, G')) := ⟨_, h, rfl⟩
  unfold f_X11_readNumber at hok
  show W p l e rm_X11_readNumber s m args below meth c s.heap [] 0 0 (MQ below (gQ X τ (some (.int r)) G') args s 0 0 (gFree X)) _
  refine lv_aload_n fx.1 fx.2.1 dX11_readNumber_0 rfl (lv_at hl 0 rfl) ?_
  refine lv_iconst (v := 0) fx.1 fx.2.1 dX11_readNumber_1 (by decide) ?_
  refine lv_bipush (v := 100) fx.1 fx.2.1 dX11_readNumber_2 (by decide) ?_
  obtain ⟨v1, G2, hf, hok⟩ := gOk_bind2 hok
  refine g_callV0 (κ := 11) fx hw (c_X11_number l X τ n x0 (0 : Int32) (100 : Int32) G h0 hf) lv_RX11_115 ⟨rfl, rfl⟩ rfl rfl h0 rfl hl.1 rfl ⟨Nat.le_of_ble_eq_true rfl, Nat.le_of_ble_eq_true rfl⟩ (Nat.le_of_ble_eq_true rfl) ⟨Nat.le_of_ble_eq_true rfl, Nat.le_of_ble_eq_true rfl⟩ dX11_readNumber_4 (fun H locs hw => ?_)
  refine lv_istore_n (lv' := [(2, .int v1), (0, .ref x0), (1, .int x1)]) fx.1 fx.2.1 dX11_readNumber_7 rfl hl (by decide) rfl (fun ls hl => ?_)
  refine lv_aload_n fx.1 fx.2.1 dX11_readNumber_8 rfl (lv_at hl 1 rfl) ?_
  refine g_getr fx hw h0 lf_RX11_13 rfl dX11_readNumber_9 hok (fun a3 h_a3 hok => ?_)
  refine lv_iload_n fx.1 fx.2.1 dX11_readNumber_12 rfl (lv_at hl 2 rfl) ?_
  refine lv_iload_n fx.1 fx.2.1 dX11_readNumber_13 rfl (lv_at hl 0 rfl) ?_
  refine g_if_ge (tgt := 26) fx dX11_readNumber_14 (by decide) hok (fun hok => ?_) (fun hok => ?_)
  · refine lv_iload_n fx.1 fx.2.1 dX11_readNumber_26 rfl (lv_at hl 0 rfl) ?_
    exact w_X11_readNumber_27 fx n v1 a3 x1 v1  h_a3 hr hw (lv_sub hl [0] rfl) hok
  · refine lv_aload_n fx.1 fx.2.1 dX11_readNumber_17 rfl (lv_at hl 1 rfl) ?_
    refine g_getr fx hw h0 lf_RX11_13 rfl dX11_readNumber_18 hok (fun a5 h_a5 hok => ?_)
    refine lv_iload_n fx.1 fx.2.1 dX11_readNumber_21 rfl (lv_at hl 2 rfl) ?_
    refine g_iald fx hw h_a5 dX11_readNumber_22 hok (fun hok => ?_)
    refine lv_goto (tgt := 27) fx.1 fx.2.1 dX11_readNumber_23 (by decide) ?_
    exact w_X11_readNumber_27 fx n v1 a3 x1 (ge G2 a5 (Int32.toNatClampNeg x1))  h_a3 hr hw (lv_sub hl [0] rfl) hok
theorem dX11_emits_0 : decode cX11_emits 0 = .ok (.aload_n 0, 1) := by decide +kernel
theorem dX11_emits_1 : decode cX11_emits 1 = .ok (.getfield 13, 3) := by decide +kernel
theorem dX11_emits_4 : decode cX11_emits 4 = .ok (.sipush 1365, 3) := by decide +kernel
theorem dX11_emits_7 : decode cX11_emits 7 = .ok (.iconst 2, 1) := by decide +kernel
theorem dX11_emits_8 : decode cX11_emits 8 = .ok (.aload_n 0, 1) := by decide +kernel
theorem dX11_emits_9 : decode cX11_emits 9 = .ok (.getfield 182, 3) := by decide +kernel
theorem dX11_emits_12 : decode cX11_emits 12 = .ok (.imul, 1) := by decide +kernel
theorem dX11_emits_13 : decode cX11_emits 13 = .ok (.iadd, 1) := by decide +kernel
theorem dX11_emits_14 : decode cX11_emits 14 = .ok (.iload_n 1, 1) := by decide +kernel
theorem dX11_emits_15 : decode cX11_emits 15 = .ok (.iastore, 1) := by decide +kernel
theorem dX11_emits_16 : decode cX11_emits 16 = .ok (.aload_n 0, 1) := by decide +kernel
theorem dX11_emits_17 : decode cX11_emits 17 = .ok (.getfield 13, 3) := by decide +kernel
theorem dX11_emits_20 : decode cX11_emits 20 = .ok (.sipush 1365, 3) := by decide +kernel
theorem dX11_emits_23 : decode cX11_emits 23 = .ok (.iconst 2, 1) := by decide +kernel
theorem dX11_emits_24 : decode cX11_emits 24 = .ok (.aload_n 0, 1) := by decide +kernel
theorem dX11_emits_25 : decode cX11_emits 25 = .ok (.getfield 182, 3) := by decide +kernel
theorem dX11_emits_28 : decode cX11_emits 28 = .ok (.imul, 1) := by decide +kernel
theorem dX11_emits_29 : decode cX11_emits 29 = .ok (.iadd, 1) := by decide +kernel
theorem dX11_emits_30 : decode cX11_emits 30 = .ok (.iconst 1, 1) := by decide +kernel
theorem dX11_emits_31 : decode cX11_emits 31 = .ok (.iadd, 1) := by decide +kernel
theorem dX11_emits_32 : decode cX11_emits 32 = .ok (.iload_n 2, 1) := by decide +kernel
theorem dX11_emits_33 : decode cX11_emits 33 = .ok (.iastore, 1) := by decide +kernel
theorem dX11_emits_34 : decode cX11_emits 34 = .ok (.aload_n 0, 1) := by decide +kernel
theorem dX11_emits_35 : decode cX11_emits 35 = .ok (.dup, 1) := by decide +kernel
theorem dX11_emits_36 : decode cX11_emits 36 = .ok (.getfield 182, 3) := by decide +kernel
theorem dX11_emits_39 : decode cX11_emits 39 = .ok (.iconst 1, 1) := by decide +kernel
theorem dX11_emits_40 : decode cX11_emits 40 = .ok (.iadd, 1) := by decide +kernel
theorem dX11_emits_41 : decode cX11_emits 41 = .ok (.putfield 182, 3) := by decide +kernel
theorem dX11_emits_44 : decode cX11_emits 44 = .ok (.return_, 1) := by decide +kernel
theorem lf_RX11_182 : gLf RX11 182 11 16 := ⟨(RX11, TX11, 20), rfl, by decide, wA_t (wt6 (List.mem_of_getElem? (i := 229) (by decide +kernel))) (by decide +kernel), rfl⟩
theorem lp_RX11_182 : gLp RX11 182 11 16 := ⟨(RX11, TX11, 20), rfl, by decide, wA_t (wt6 (List.mem_of_getElem? (i := 229) (by decide +kernel))) (by decide +kernel), rfl, rfl⟩
def rm_X11_emits : Room := { frames := 0, cells := 0, slots := 0, locals := 0 }
def f_X11_emits (τ : gτ) (x0 : Nat) (x1 : Int32) (x2 : Int32) (G : gG) : Option (gG) :=
  (gr G 11 1 x0).bind fun a1 =>
  gchk (gIn ((1365 : Int32) + ((2 : Int32) * (gi G 11 16 x0))) (gn τ a1)) <| gLet (gse G a1 (Int32.toNatClampNeg ((1365 : Int32) + ((2 : Int32) * (gi G 11 16 x0)))) x1) fun G2 =>
  (gr G2 11 1 x0).bind fun a3 =>
  gchk (gIn (((1365 : Int32) + ((2 : Int32) * (gi G2 11 16 x0))) + (1 : Int32)) (gn τ a3)) <| gLet (gse G2 a3 (Int32.toNatClampNeg (((1365 : Int32) + ((2 : Int32) * (gi G2 11 16 x0))) + (1 : Int32))) x2) fun G4 =>
  gLet (gsi G4 11 16 x0 ((gi G4 11 16 x0) + (1 : Int32))) fun G5 =>
  some G5
set_option maxHeartbeats 4000000 in
set_option maxRecDepth 100000 in
theorem c_X11_emits (l : Launch) (X : gX) (τ : gτ) (x0 : Nat) (x1 : Int32) (x2 : Int32) (G : gG) (h0 : gK τ x0 11) {G' : gG} (h : f_X11_emits τ x0 x1 x2 G = some G') : gM l X τ yX11_emits cX11_emits 3 none rm_X11_emits [.ref x0, .int x1, .int x2] G none G' := by
  refine g_body (by decide +kernel) (Nat.le_of_ble_eq_true rfl) ?_
  intro p e s m args below meth c ls fx hr hw hl
  have fx : gFx X p s m args meth c cX11_emits 3 RX11 := fx
  have hl : lv_has ls 3 [(0, .ref x0), (1, .int x1), (2, .int x2)] := hl
  have hok : gOk (f_X11_emits τ x0 x1 x2 G) (fun q => q = G') := ⟨_, h, rfl⟩
  unfold f_X11_emits at hok
  show W p l e rm_X11_emits s m args below meth c s.heap [] 0 0 (MQ below (gQ X τ none G') args s 0 0 (gFree X)) _
  refine lv_aload_n fx.1 fx.2.1 dX11_emits_0 rfl (lv_at hl 0 rfl) ?_
  refine g_getr fx hw h0 lf_RX11_13 rfl dX11_emits_1 hok (fun a1 h_a1 hok => ?_)
  refine lv_sipush (v := 1365) fx.1 fx.2.1 dX11_emits_4 (by decide) ?_
  refine lv_iconst (v := 2) fx.1 fx.2.1 dX11_emits_7 (by decide) ?_
  refine lv_aload_n fx.1 fx.2.1 dX11_emits_8 rfl (lv_at hl 0 rfl) ?_
  refine g_geti fx hw h0 lf_RX11_182 rfl dX11_emits_9 ?_
  refine lv_imul fx.1 fx.2.1 dX11_emits_12 ?_
  refine lv_iadd fx.1 fx.2.1 dX11_emits_13 ?_
  refine lv_iload_n fx.1 fx.2.1 dX11_emits_14 rfl (lv_at hl 1 rfl) ?_
  refine g_iast fx hw h_a1 dX11_emits_15 hok (fun G2 H locs hw hok => ?_)
  refine lv_aload_n fx.1 fx.2.1 dX11_emits_16 rfl (lv_at hl 0 rfl) ?_
  refine g_getr fx hw h0 lf_RX11_13 rfl dX11_emits_17 hok (fun a3 h_a3 hok => ?_)
  refine lv_sipush (v := 1365) fx.1 fx.2.1 dX11_emits_20 (by decide) ?_
  refine lv_iconst (v := 2) fx.1 fx.2.1 dX11_emits_23 (by decide) ?_
  refine lv_aload_n fx.1 fx.2.1 dX11_emits_24 rfl (lv_at hl 0 rfl) ?_
  refine g_geti fx hw h0 lf_RX11_182 rfl dX11_emits_25 ?_
  refine lv_imul fx.1 fx.2.1 dX11_emits_28 ?_
  refine lv_iadd fx.1 fx.2.1 dX11_emits_29 ?_
  refine lv_iconst (v := 1) fx.1 fx.2.1 dX11_emits_30 (by decide) ?_
  refine lv_iadd fx.1 fx.2.1 dX11_emits_31 ?_
  refine lv_iload_n fx.1 fx.2.1 dX11_emits_32 rfl (lv_at hl 2 rfl) ?_
  refine g_iast fx hw h_a3 dX11_emits_33 hok (fun G4 H locs hw hok => ?_)
  refine lv_aload_n fx.1 fx.2.1 dX11_emits_34 rfl (lv_at hl 0 rfl) ?_
  refine lv_dup fx.1 fx.2.1 dX11_emits_35 rfl ?_
  refine g_geti fx hw h0 lf_RX11_182 rfl dX11_emits_36 ?_
  refine lv_iconst (v := 1) fx.1 fx.2.1 dX11_emits_39 (by decide) ?_
  refine lv_iadd fx.1 fx.2.1 dX11_emits_40 ?_
  refine g_puti fx hw h0 lp_RX11_182 rfl rfl dX11_emits_41 hok (fun G5 H locs hw hok => ?_)
  cases gOk_some hok
  exact g_vret fx hw hr dX11_emits_44
theorem dX11_yarnOf_0 : decode cX11_yarnOf 0 = .ok (.aload_n 0, 1) := by decide +kernel
theorem dX11_yarnOf_1 : decode cX11_yarnOf 1 = .ok (.aload_n 0, 1) := by decide +kernel
theorem dX11_yarnOf_2 : decode cX11_yarnOf 2 = .ok (.iload_n 1, 1) := by decide +kernel
theorem dX11_yarnOf_3 : decode cX11_yarnOf 3 = .ok (.iload_n 2, 1) := by decide +kernel
theorem dX11_yarnOf_4 : decode cX11_yarnOf 4 = .ok (.invokevirtual 62, 3) := by decide +kernel
theorem dX11_yarnOf_7 : decode cX11_yarnOf 7 = .ok (.iload_n 3, 1) := by decide +kernel
theorem dX11_yarnOf_8 : decode cX11_yarnOf 8 = .ok (.invokevirtual 132, 3) := by decide +kernel
theorem dX11_yarnOf_11 : decode cX11_yarnOf 11 = .ok (.ireturn, 1) := by decide +kernel
theorem lv_RX11_132 : gLv RX11 132 RX11 yX11_ofYarn cX11_ofYarn 3 (some .int) 2 := gLv_of (wA_t (wt7 (List.mem_of_getElem? (i := 128) (by decide +kernel))) (by decide +kernel)) (wA_t (wt7 (List.mem_of_getElem? (i := 130) (by decide +kernel))) (by decide +kernel)) (wA_of (List.mem_append_left _ (List.mem_map.mpr ⟨(⟨"YearRopeModel", "ofYarn", "(II)I"⟩, 20), wp4 (List.mem_of_getElem? (i := 8) (by decide +kernel)), rfl⟩)) (by decide +kernel)) (wA_t (wt1 (List.mem_of_getElem? (i := 12) (by decide +kernel))) (by decide +kernel)) (wA_t (wt7 (List.mem_of_getElem? (i := 131) (by decide +kernel))) (by decide +kernel)) ⟨rfl, by decide +kernel, by decide +kernel, by decide +kernel⟩
def rm_X11_yarnOf : Room := { frames := 2, cells := 0, slots := 0, locals := 43 }
def f_X11_yarnOf (τ : gτ) (x0 : Nat) (x1 : Int32) (x2 : Int32) (x3 : Int32) (G : gG) : Option (Int32) :=
  (f_X11_of τ x0 x1 x2 G).bind fun v1 =>
  (f_X11_ofYarn τ x0 v1 x3 G).bind fun v2 =>
  some (v2)
set_option maxHeartbeats 4000000 in
set_option maxRecDepth 100000 in
theorem c_X11_yarnOf (l : Launch) (X : gX) (τ : gτ) (x0 : Nat) (x1 : Int32) (x2 : Int32) (x3 : Int32) (G : gG) (h0 : gK τ x0 11) {r : Int32}  (h : f_X11_yarnOf τ x0 x1 x2 x3 G = some r) : gM l X τ yX11_yarnOf cX11_yarnOf 4 (some .int) rm_X11_yarnOf [.ref x0, .int x1, .int x2, .int x3] G (some (.int r)) G := by
  refine g_body (by decide +kernel) (Nat.le_of_ble_eq_true rfl) ?_
  intro p e s m args below meth c ls fx hr hw hl
  have fx : gFx X p s m args meth c cX11_yarnOf 4 RX11 := fx
  have hl : lv_has ls 4 [(0, .ref x0), (1, .int x1), (2, .int x2), (3, .int x3)] := hl
  have hok : gOk (f_X11_yarnOf τ x0 x1 x2 x3 G) (fun q => q = r) := ⟨_, h, rfl⟩
  unfold f_X11_yarnOf at hok
  show W p l e rm_X11_yarnOf s m args below meth c s.heap [] 0 0 (MQ below (gQ X τ (some (.int r)) G) args s 0 0 (gFree X)) _
  refine lv_aload_n fx.1 fx.2.1 dX11_yarnOf_0 rfl (lv_at hl 0 rfl) ?_
  refine lv_aload_n fx.1 fx.2.1 dX11_yarnOf_1 rfl (lv_at hl 0 rfl) ?_
  refine lv_iload_n fx.1 fx.2.1 dX11_yarnOf_2 rfl (lv_at hl 1 rfl) ?_
  refine lv_iload_n fx.1 fx.2.1 dX11_yarnOf_3 rfl (lv_at hl 2 rfl) ?_
  obtain ⟨v1, hf, hok⟩ := gOk_bind hok
  refine g_callV0 (κ := 11) fx hw (c_X11_of l X τ x0 x1 x2 G h0 hf) lv_RX11_62 ⟨rfl, rfl⟩ rfl rfl h0 rfl hl.1 rfl ⟨Nat.le_of_ble_eq_true rfl, Nat.le_of_ble_eq_true rfl⟩ (Nat.le_of_ble_eq_true rfl) ⟨Nat.le_of_ble_eq_true rfl, Nat.le_of_ble_eq_true rfl⟩ dX11_yarnOf_4 (fun H locs hw => ?_)
  refine lv_iload_n fx.1 fx.2.1 dX11_yarnOf_7 rfl (lv_at hl 3 rfl) ?_
  obtain ⟨v2, hf, hok⟩ := gOk_bind hok
  refine g_callV0 (κ := 11) fx hw (c_X11_ofYarn l X τ x0 v1 x3 G h0 hf) lv_RX11_132 ⟨rfl, rfl⟩ rfl rfl h0 rfl hl.1 rfl ⟨Nat.le_of_ble_eq_true rfl, Nat.le_of_ble_eq_true rfl⟩ (Nat.le_of_ble_eq_true rfl) ⟨Nat.le_of_ble_eq_true rfl, Nat.le_of_ble_eq_true rfl⟩ dX11_yarnOf_8 (fun H locs hw => ?_)
  cases gOk_some hok
  exact g_iret fx hw hr dX11_yarnOf_11
theorem dX11_weakOf_0 : decode cX11_weakOf 0 = .ok (.aload_n 0, 1) := by decide +kernel
theorem dX11_weakOf_1 : decode cX11_weakOf 1 = .ok (.iload_n 1, 1) := by decide +kernel
theorem dX11_weakOf_2 : decode cX11_weakOf 2 = .ok (.iconst 0, 1) := by decide +kernel
theorem dX11_weakOf_3 : decode cX11_weakOf 3 = .ok (.iconst 0, 1) := by decide +kernel
theorem dX11_weakOf_4 : decode cX11_weakOf 4 = .ok (.invokevirtual 266, 3) := by decide +kernel
theorem dX11_weakOf_7 : decode cX11_weakOf 7 = .ok (.aload_n 0, 1) := by decide +kernel
theorem dX11_weakOf_8 : decode cX11_weakOf 8 = .ok (.iload_n 1, 1) := by decide +kernel
theorem dX11_weakOf_9 : decode cX11_weakOf 9 = .ok (.iconst 1, 1) := by decide +kernel
theorem dX11_weakOf_10 : decode cX11_weakOf 10 = .ok (.iconst 0, 1) := by decide +kernel
theorem dX11_weakOf_11 : decode cX11_weakOf 11 = .ok (.invokevirtual 266, 3) := by decide +kernel
theorem dX11_weakOf_14 : decode cX11_weakOf 14 = .ok (.aload_n 0, 1) := by decide +kernel
theorem dX11_weakOf_15 : decode cX11_weakOf 15 = .ok (.iload_n 1, 1) := by decide +kernel
theorem dX11_weakOf_16 : decode cX11_weakOf 16 = .ok (.iconst 2, 1) := by decide +kernel
theorem dX11_weakOf_17 : decode cX11_weakOf 17 = .ok (.iconst 0, 1) := by decide +kernel
theorem dX11_weakOf_18 : decode cX11_weakOf 18 = .ok (.invokevirtual 266, 3) := by decide +kernel
theorem dX11_weakOf_21 : decode cX11_weakOf 21 = .ok (.invokestatic 135, 3) := by decide +kernel
theorem dX11_weakOf_24 : decode cX11_weakOf 24 = .ok (.invokestatic 135, 3) := by decide +kernel
theorem dX11_weakOf_27 : decode cX11_weakOf 27 = .ok (.ireturn, 1) := by decide +kernel
theorem lv_RX11_266 : gLv RX11 266 RX11 yX11_yarnOf cX11_yarnOf 4 (some .int) 3 := gLv_of (wA_t (wt8 (List.mem_of_getElem? (i := 57) (by decide +kernel))) (by decide +kernel)) (wA_t (wt8 (List.mem_of_getElem? (i := 59) (by decide +kernel))) (by decide +kernel)) (wA_of (List.mem_append_left _ (List.mem_map.mpr ⟨(⟨"YearRopeModel", "yarnOf", "(III)I"⟩, 20), wp6 (List.mem_of_getElem? (i := 7) (by decide +kernel)), rfl⟩)) (by decide +kernel)) (wA_t (wt1 (List.mem_of_getElem? (i := 12) (by decide +kernel))) (by decide +kernel)) (wA_t (wt8 (List.mem_of_getElem? (i := 60) (by decide +kernel))) (by decide +kernel)) ⟨rfl, by decide +kernel, by decide +kernel, by decide +kernel⟩
theorem lm_RX11_135 : Cond.methodLink RX11 135 Lib.Math.min.name ∈ wA := wA_t (wt7 (List.mem_of_getElem? (i := 132) (by decide +kernel))) (by decide +kernel)
def rm_X11_weakOf : Room := { frames := 3, cells := 0, slots := 0, locals := 66 }
def f_X11_weakOf (τ : gτ) (x0 : Nat) (x1 : Int32) (G : gG) : Option (Int32) :=
  (f_X11_yarnOf τ x0 x1 (0 : Int32) (0 : Int32) G).bind fun v1 =>
  (f_X11_yarnOf τ x0 x1 (1 : Int32) (0 : Int32) G).bind fun v2 =>
  (f_X11_yarnOf τ x0 x1 (2 : Int32) (0 : Int32) G).bind fun v3 =>
  some (gmin v1 (gmin v2 v3))
set_option maxHeartbeats 4000000 in
set_option maxRecDepth 100000 in
theorem c_X11_weakOf (l : Launch) (X : gX) (τ : gτ) (x0 : Nat) (x1 : Int32) (G : gG) (h0 : gK τ x0 11) {r : Int32}  (h : f_X11_weakOf τ x0 x1 G = some r) : gM l X τ yX11_weakOf cX11_weakOf 2 (some .int) rm_X11_weakOf [.ref x0, .int x1] G (some (.int r)) G := by
  refine g_body (by decide +kernel) (Nat.le_of_ble_eq_true rfl) ?_
  intro p e s m args below meth c ls fx hr hw hl
  have fx : gFx X p s m args meth c cX11_weakOf 2 RX11 := fx
  have hl : lv_has ls 2 [(0, .ref x0), (1, .int x1)] := hl
  have hok : gOk (f_X11_weakOf τ x0 x1 G) (fun q => q = r) := ⟨_, h, rfl⟩
  unfold f_X11_weakOf at hok
  show W p l e rm_X11_weakOf s m args below meth c s.heap [] 0 0 (MQ below (gQ X τ (some (.int r)) G) args s 0 0 (gFree X)) _
  refine lv_aload_n fx.1 fx.2.1 dX11_weakOf_0 rfl (lv_at hl 0 rfl) ?_
  refine lv_iload_n fx.1 fx.2.1 dX11_weakOf_1 rfl (lv_at hl 1 rfl) ?_
  refine lv_iconst (v := 0) fx.1 fx.2.1 dX11_weakOf_2 (by decide) ?_
  refine lv_iconst (v := 0) fx.1 fx.2.1 dX11_weakOf_3 (by decide) ?_
  obtain ⟨v1, hf, hok⟩ := gOk_bind hok
  refine g_callV0 (κ := 11) fx hw (c_X11_yarnOf l X τ x0 x1 (0 : Int32) (0 : Int32) G h0 hf) lv_RX11_266 ⟨rfl, rfl⟩ rfl rfl h0 rfl hl.1 rfl ⟨Nat.le_of_ble_eq_true rfl, Nat.le_of_ble_eq_true rfl⟩ (Nat.le_of_ble_eq_true rfl) ⟨Nat.le_of_ble_eq_true rfl, Nat.le_of_ble_eq_true rfl⟩ dX11_weakOf_4 (fun H locs hw => ?_)
  refine lv_aload_n fx.1 fx.2.1 dX11_weakOf_7 rfl (lv_at hl 0 rfl) ?_
  refine lv_iload_n fx.1 fx.2.1 dX11_weakOf_8 rfl (lv_at hl 1 rfl) ?_
  refine lv_iconst (v := 1) fx.1 fx.2.1 dX11_weakOf_9 (by decide) ?_
  refine lv_iconst (v := 0) fx.1 fx.2.1 dX11_weakOf_10 (by decide) ?_
  obtain ⟨v2, hf, hok⟩ := gOk_bind hok
  refine g_callV0 (κ := 11) fx hw (c_X11_yarnOf l X τ x0 x1 (1 : Int32) (0 : Int32) G h0 hf) lv_RX11_266 ⟨rfl, rfl⟩ rfl rfl h0 rfl hl.1 rfl ⟨Nat.le_of_ble_eq_true rfl, Nat.le_of_ble_eq_true rfl⟩ (Nat.le_of_ble_eq_true rfl) ⟨Nat.le_of_ble_eq_true rfl, Nat.le_of_ble_eq_true rfl⟩ dX11_weakOf_11 (fun H locs hw => ?_)
  refine lv_aload_n fx.1 fx.2.1 dX11_weakOf_14 rfl (lv_at hl 0 rfl) ?_
  refine lv_iload_n fx.1 fx.2.1 dX11_weakOf_15 rfl (lv_at hl 1 rfl) ?_
  refine lv_iconst (v := 2) fx.1 fx.2.1 dX11_weakOf_16 (by decide) ?_
  refine lv_iconst (v := 0) fx.1 fx.2.1 dX11_weakOf_17 (by decide) ?_
  obtain ⟨v3, hf, hok⟩ := gOk_bind hok
  refine g_callV0 (κ := 11) fx hw (c_X11_yarnOf l X τ x0 x1 (2 : Int32) (0 : Int32) G h0 hf) lv_RX11_266 ⟨rfl, rfl⟩ rfl rfl h0 rfl hl.1 rfl ⟨Nat.le_of_ble_eq_true rfl, Nat.le_of_ble_eq_true rfl⟩ (Nat.le_of_ble_eq_true rfl) ⟨Nat.le_of_ble_eq_true rfl, Nat.le_of_ble_eq_true rfl⟩ dX11_weakOf_18 (fun H locs hw => ?_)
  refine g_mmin fx hl.1 lm_RX11_135 lmst_min lm_init lmco_min ⟨Nat.le_of_ble_eq_true rfl, Nat.le_of_ble_eq_true rfl, Nat.le_of_ble_eq_true rfl, Nat.le_of_ble_eq_true rfl⟩ dX11_weakOf_21 ?_
  refine g_mmin fx hl.1 lm_RX11_135 lmst_min lm_init lmco_min ⟨Nat.le_of_ble_eq_true rfl, Nat.le_of_ble_eq_true rfl, Nat.le_of_ble_eq_true rfl, Nat.le_of_ble_eq_true rfl⟩ dX11_weakOf_24 ?_
  cases gOk_some hok
  exact g_iret fx hw hr dX11_weakOf_27
theorem dX11_strongOf_0 : decode cX11_strongOf 0 = .ok (.aload_n 0, 1) := by decide +kernel
theorem dX11_strongOf_1 : decode cX11_strongOf 1 = .ok (.iload_n 1, 1) := by decide +kernel
theorem dX11_strongOf_2 : decode cX11_strongOf 2 = .ok (.iconst 0, 1) := by decide +kernel
theorem dX11_strongOf_3 : decode cX11_strongOf 3 = .ok (.iconst 0, 1) := by decide +kernel
theorem dX11_strongOf_4 : decode cX11_strongOf 4 = .ok (.invokevirtual 266, 3) := by decide +kernel
theorem dX11_strongOf_7 : decode cX11_strongOf 7 = .ok (.aload_n 0, 1) := by decide +kernel
theorem dX11_strongOf_8 : decode cX11_strongOf 8 = .ok (.iload_n 1, 1) := by decide +kernel
theorem dX11_strongOf_9 : decode cX11_strongOf 9 = .ok (.iconst 1, 1) := by decide +kernel
theorem dX11_strongOf_10 : decode cX11_strongOf 10 = .ok (.iconst 0, 1) := by decide +kernel
theorem dX11_strongOf_11 : decode cX11_strongOf 11 = .ok (.invokevirtual 266, 3) := by decide +kernel
theorem dX11_strongOf_14 : decode cX11_strongOf 14 = .ok (.aload_n 0, 1) := by decide +kernel
theorem dX11_strongOf_15 : decode cX11_strongOf 15 = .ok (.iload_n 1, 1) := by decide +kernel
theorem dX11_strongOf_16 : decode cX11_strongOf 16 = .ok (.iconst 2, 1) := by decide +kernel
theorem dX11_strongOf_17 : decode cX11_strongOf 17 = .ok (.iconst 0, 1) := by decide +kernel
theorem dX11_strongOf_18 : decode cX11_strongOf 18 = .ok (.invokevirtual 266, 3) := by decide +kernel
theorem dX11_strongOf_21 : decode cX11_strongOf 21 = .ok (.invokestatic 270, 3) := by decide +kernel
theorem dX11_strongOf_24 : decode cX11_strongOf 24 = .ok (.invokestatic 270, 3) := by decide +kernel
theorem dX11_strongOf_27 : decode cX11_strongOf 27 = .ok (.ireturn, 1) := by decide +kernel
theorem lm_RX11_270 : Cond.methodLink RX11 270 Lib.Math.max.name ∈ wA := wA_t (wt8 (List.mem_of_getElem? (i := 13) (by decide +kernel))) (by decide +kernel)
def rm_X11_strongOf : Room := { frames := 3, cells := 0, slots := 0, locals := 66 }
def f_X11_strongOf (τ : gτ) (x0 : Nat) (x1 : Int32) (G : gG) : Option (Int32) :=
  (f_X11_yarnOf τ x0 x1 (0 : Int32) (0 : Int32) G).bind fun v1 =>
  (f_X11_yarnOf τ x0 x1 (1 : Int32) (0 : Int32) G).bind fun v2 =>
  (f_X11_yarnOf τ x0 x1 (2 : Int32) (0 : Int32) G).bind fun v3 =>
  some (gmax v1 (gmax v2 v3))
set_option maxHeartbeats 4000000 in
set_option maxRecDepth 100000 in
theorem c_X11_strongOf (l : Launch) (X : gX) (τ : gτ) (x0 : Nat) (x1 : Int32) (G : gG) (h0 : gK τ x0 11) {r : Int32}  (h : f_X11_strongOf τ x0 x1 G = some r) : gM l X τ yX11_strongOf cX11_strongOf 2 (some .int) rm_X11_strongOf [.ref x0, .int x1] G (some (.int r)) G := by
  refine g_body (by decide +kernel) (Nat.le_of_ble_eq_true rfl) ?_
  intro p e s m args below meth c ls fx hr hw hl
  have fx : gFx X p s m args meth c cX11_strongOf 2 RX11 := fx
  have hl : lv_has ls 2 [(0, .ref x0), (1, .int x1)] := hl
  have hok : gOk (f_X11_strongOf τ x0 x1 G) (fun q => q = r) := ⟨_, h, rfl⟩
  unfold f_X11_strongOf at hok
  show W p l e rm_X11_strongOf s m args below meth c s.heap [] 0 0 (MQ below (gQ X τ (some (.int r)) G) args s 0 0 (gFree X)) _
  refine lv_aload_n fx.1 fx.2.1 dX11_strongOf_0 rfl (lv_at hl 0 rfl) ?_
  refine lv_iload_n fx.1 fx.2.1 dX11_strongOf_1 rfl (lv_at hl 1 rfl) ?_
  refine lv_iconst (v := 0) fx.1 fx.2.1 dX11_strongOf_2 (by decide) ?_
  refine lv_iconst (v := 0) fx.1 fx.2.1 dX11_strongOf_3 (by decide) ?_
  obtain ⟨v1, hf, hok⟩ := gOk_bind hok
  refine g_callV0 (κ := 11) fx hw (c_X11_yarnOf l X τ x0 x1 (0 : Int32) (0 : Int32) G h0 hf) lv_RX11_266 ⟨rfl, rfl⟩ rfl rfl h0 rfl hl.1 rfl ⟨Nat.le_of_ble_eq_true rfl, Nat.le_of_ble_eq_true rfl⟩ (Nat.le_of_ble_eq_true rfl) ⟨Nat.le_of_ble_eq_true rfl, Nat.le_of_ble_eq_true rfl⟩ dX11_strongOf_4 (fun H locs hw => ?_)
  refine lv_aload_n fx.1 fx.2.1 dX11_strongOf_7 rfl (lv_at hl 0 rfl) ?_
  refine lv_iload_n fx.1 fx.2.1 dX11_strongOf_8 rfl (lv_at hl 1 rfl) ?_
  refine lv_iconst (v := 1) fx.1 fx.2.1 dX11_strongOf_9 (by decide) ?_
  refine lv_iconst (v := 0) fx.1 fx.2.1 dX11_strongOf_10 (by decide) ?_
  obtain ⟨v2, hf, hok⟩ := gOk_bind hok
  refine g_callV0 (κ := 11) fx hw (c_X11_yarnOf l X τ x0 x1 (1 : Int32) (0 : Int32) G h0 hf) lv_RX11_266 ⟨rfl, rfl⟩ rfl rfl h0 rfl hl.1 rfl ⟨Nat.le_of_ble_eq_true rfl, Nat.le_of_ble_eq_true rfl⟩ (Nat.le_of_ble_eq_true rfl) ⟨Nat.le_of_ble_eq_true rfl, Nat.le_of_ble_eq_true rfl⟩ dX11_strongOf_11 (fun H locs hw => ?_)
  refine lv_aload_n fx.1 fx.2.1 dX11_strongOf_14 rfl (lv_at hl 0 rfl) ?_
  refine lv_iload_n fx.1 fx.2.1 dX11_strongOf_15 rfl (lv_at hl 1 rfl) ?_
  refine lv_iconst (v := 2) fx.1 fx.2.1 dX11_strongOf_16 (by decide) ?_
  refine lv_iconst (v := 0) fx.1 fx.2.1 dX11_strongOf_17 (by decide) ?_
  obtain ⟨v3, hf, hok⟩ := gOk_bind hok
  refine g_callV0 (κ := 11) fx hw (c_X11_yarnOf l X τ x0 x1 (2 : Int32) (0 : Int32) G h0 hf) lv_RX11_266 ⟨rfl, rfl⟩ rfl rfl h0 rfl hl.1 rfl ⟨Nat.le_of_ble_eq_true rfl, Nat.le_of_ble_eq_true rfl⟩ (Nat.le_of_ble_eq_true rfl) ⟨Nat.le_of_ble_eq_true rfl, Nat.le_of_ble_eq_true rfl⟩ dX11_strongOf_18 (fun H locs hw => ?_)
  refine g_mmax fx hl.1 lm_RX11_270 lmst_max lm_init lmco_max ⟨Nat.le_of_ble_eq_true rfl, Nat.le_of_ble_eq_true rfl, Nat.le_of_ble_eq_true rfl, Nat.le_of_ble_eq_true rfl⟩ dX11_strongOf_21 ?_
  refine g_mmax fx hl.1 lm_RX11_270 lmst_max lm_init lmco_max ⟨Nat.le_of_ble_eq_true rfl, Nat.le_of_ble_eq_true rfl, Nat.le_of_ble_eq_true rfl, Nat.le_of_ble_eq_true rfl⟩ dX11_strongOf_24 ?_
  cases gOk_some hok
  exact g_iret fx hw hr dX11_strongOf_27
theorem dX11_rotOf_0 : decode cX11_rotOf 0 = .ok (.aload_n 0, 1) := by decide +kernel
theorem dX11_rotOf_1 : decode cX11_rotOf 1 = .ok (.iload_n 1, 1) := by decide +kernel
theorem dX11_rotOf_2 : decode cX11_rotOf 2 = .ok (.iconst 0, 1) := by decide +kernel
theorem dX11_rotOf_3 : decode cX11_rotOf 3 = .ok (.iconst 2, 1) := by decide +kernel
theorem dX11_rotOf_4 : decode cX11_rotOf 4 = .ok (.invokevirtual 266, 3) := by decide +kernel
theorem dX11_rotOf_7 : decode cX11_rotOf 7 = .ok (.aload_n 0, 1) := by decide +kernel
theorem dX11_rotOf_8 : decode cX11_rotOf 8 = .ok (.iload_n 1, 1) := by decide +kernel
theorem dX11_rotOf_9 : decode cX11_rotOf 9 = .ok (.iconst 1, 1) := by decide +kernel
theorem dX11_rotOf_10 : decode cX11_rotOf 10 = .ok (.iconst 2, 1) := by decide +kernel
theorem dX11_rotOf_11 : decode cX11_rotOf 11 = .ok (.invokevirtual 266, 3) := by decide +kernel
theorem dX11_rotOf_14 : decode cX11_rotOf 14 = .ok (.iadd, 1) := by decide +kernel
theorem dX11_rotOf_15 : decode cX11_rotOf 15 = .ok (.aload_n 0, 1) := by decide +kernel
theorem dX11_rotOf_16 : decode cX11_rotOf 16 = .ok (.iload_n 1, 1) := by decide +kernel
theorem dX11_rotOf_17 : decode cX11_rotOf 17 = .ok (.iconst 2, 1) := by decide +kernel
theorem dX11_rotOf_18 : decode cX11_rotOf 18 = .ok (.iconst 2, 1) := by decide +kernel
theorem dX11_rotOf_19 : decode cX11_rotOf 19 = .ok (.invokevirtual 266, 3) := by decide +kernel
theorem dX11_rotOf_22 : decode cX11_rotOf 22 = .ok (.iadd, 1) := by decide +kernel
theorem dX11_rotOf_23 : decode cX11_rotOf 23 = .ok (.ireturn, 1) := by decide +kernel
def rm_X11_rotOf : Room := { frames := 3, cells := 0, slots := 0, locals := 66 }
def f_X11_rotOf (τ : gτ) (x0 : Nat) (x1 : Int32) (G : gG) : Option (Int32) :=
  (f_X11_yarnOf τ x0 x1 (0 : Int32) (2 : Int32) G).bind fun v1 =>
  (f_X11_yarnOf τ x0 x1 (1 : Int32) (2 : Int32) G).bind fun v2 =>
  (f_X11_yarnOf τ x0 x1 (2 : Int32) (2 : Int32) G).bind fun v3 =>
  some ((v1 + v2) + v3)
set_option maxHeartbeats 4000000 in
set_option maxRecDepth 100000 in
theorem c_X11_rotOf (l : Launch) (X : gX) (τ : gτ) (x0 : Nat) (x1 : Int32) (G : gG) (h0 : gK τ x0 11) {r : Int32}  (h : f_X11_rotOf τ x0 x1 G = some r) : gM l X τ yX11_rotOf cX11_rotOf 2 (some .int) rm_X11_rotOf [.ref x0, .int x1] G (some (.int r)) G := by
  refine g_body (by decide +kernel) (Nat.le_of_ble_eq_true rfl) ?_
  intro p e s m args below meth c ls fx hr hw hl
  have fx : gFx X p s m args meth c cX11_rotOf 2 RX11 := fx
  have hl : lv_has ls 2 [(0, .ref x0), (1, .int x1)] := hl
  have hok : gOk (f_X11_rotOf τ x0 x1 G) (fun q => q = r) := ⟨_, h, rfl⟩
  unfold f_X11_rotOf at hok
  show W p l e rm_X11_rotOf s m args below meth c s.heap [] 0 0 (MQ below (gQ X τ (some (.int r)) G) args s 0 0 (gFree X)) _
  refine lv_aload_n fx.1 fx.2.1 dX11_rotOf_0 rfl (lv_at hl 0 rfl) ?_
  refine lv_iload_n fx.1 fx.2.1 dX11_rotOf_1 rfl (lv_at hl 1 rfl) ?_
  refine lv_iconst (v := 0) fx.1 fx.2.1 dX11_rotOf_2 (by decide) ?_
  refine lv_iconst (v := 2) fx.1 fx.2.1 dX11_rotOf_3 (by decide) ?_
  obtain ⟨v1, hf, hok⟩ := gOk_bind hok
  refine g_callV0 (κ := 11) fx hw (c_X11_yarnOf l X τ x0 x1 (0 : Int32) (2 : Int32) G h0 hf) lv_RX11_266 ⟨rfl, rfl⟩ rfl rfl h0 rfl hl.1 rfl ⟨Nat.le_of_ble_eq_true rfl, Nat.le_of_ble_eq_true rfl⟩ (Nat.le_of_ble_eq_true rfl) ⟨Nat.le_of_ble_eq_true rfl, Nat.le_of_ble_eq_true rfl⟩ dX11_rotOf_4 (fun H locs hw => ?_)
  refine lv_aload_n fx.1 fx.2.1 dX11_rotOf_7 rfl (lv_at hl 0 rfl) ?_
  refine lv_iload_n fx.1 fx.2.1 dX11_rotOf_8 rfl (lv_at hl 1 rfl) ?_
  refine lv_iconst (v := 1) fx.1 fx.2.1 dX11_rotOf_9 (by decide) ?_
  refine lv_iconst (v := 2) fx.1 fx.2.1 dX11_rotOf_10 (by decide) ?_
  obtain ⟨v2, hf, hok⟩ := gOk_bind hok
  refine g_callV0 (κ := 11) fx hw (c_X11_yarnOf l X τ x0 x1 (1 : Int32) (2 : Int32) G h0 hf) lv_RX11_266 ⟨rfl, rfl⟩ rfl rfl h0 rfl hl.1 rfl ⟨Nat.le_of_ble_eq_true rfl, Nat.le_of_ble_eq_true rfl⟩ (Nat.le_of_ble_eq_true rfl) ⟨Nat.le_of_ble_eq_true rfl, Nat.le_of_ble_eq_true rfl⟩ dX11_rotOf_11 (fun H locs hw => ?_)
  refine lv_iadd fx.1 fx.2.1 dX11_rotOf_14 ?_
  refine lv_aload_n fx.1 fx.2.1 dX11_rotOf_15 rfl (lv_at hl 0 rfl) ?_
  refine lv_iload_n fx.1 fx.2.1 dX11_rotOf_16 rfl (lv_at hl 1 rfl) ?_
  refine lv_iconst (v := 2) fx.1 fx.2.1 dX11_rotOf_17 (by decide) ?_
  refine lv_iconst (v := 2) fx.1 fx.2.1 dX11_rotOf_18 (by decide) ?_
  obtain ⟨v3, hf, hok⟩ := gOk_bind hok
  refine g_callV0 (κ := 11) fx hw (c_X11_yarnOf l X τ x0 x1 (2 : Int32) (2 : Int32) G h0 hf) lv_RX11_266 ⟨rfl, rfl⟩ rfl rfl h0 rfl hl.1 rfl ⟨Nat.le_of_ble_eq_true rfl, Nat.le_of_ble_eq_true rfl⟩ (Nat.le_of_ble_eq_true rfl) ⟨Nat.le_of_ble_eq_true rfl, Nat.le_of_ble_eq_true rfl⟩ dX11_rotOf_19 (fun H locs hw => ?_)
  refine lv_iadd fx.1 fx.2.1 dX11_rotOf_22 ?_
  cases gOk_some hok
  exact g_iret fx hw hr dX11_rotOf_23
theorem dX11_reignsOf_0 : decode cX11_reignsOf 0 = .ok (.iconst 1, 1) := by decide +kernel
theorem dX11_reignsOf_1 : decode cX11_reignsOf 1 = .ok (.aload_n 0, 1) := by decide +kernel
theorem dX11_reignsOf_2 : decode cX11_reignsOf 2 = .ok (.iload_n 1, 1) := by decide +kernel
theorem dX11_reignsOf_3 : decode cX11_reignsOf 3 = .ok (.iconst 0, 1) := by decide +kernel
theorem dX11_reignsOf_4 : decode cX11_reignsOf 4 = .ok (.iconst 3, 1) := by decide +kernel
theorem dX11_reignsOf_5 : decode cX11_reignsOf 5 = .ok (.invokevirtual 266, 3) := by decide +kernel
theorem dX11_reignsOf_8 : decode cX11_reignsOf 8 = .ok (.ishl, 1) := by decide +kernel
theorem dX11_reignsOf_9 : decode cX11_reignsOf 9 = .ok (.iconst 1, 1) := by decide +kernel
theorem dX11_reignsOf_10 : decode cX11_reignsOf 10 = .ok (.aload_n 0, 1) := by decide +kernel
theorem dX11_reignsOf_11 : decode cX11_reignsOf 11 = .ok (.iload_n 1, 1) := by decide +kernel
theorem dX11_reignsOf_12 : decode cX11_reignsOf 12 = .ok (.iconst 1, 1) := by decide +kernel
theorem dX11_reignsOf_13 : decode cX11_reignsOf 13 = .ok (.iconst 3, 1) := by decide +kernel
theorem dX11_reignsOf_14 : decode cX11_reignsOf 14 = .ok (.invokevirtual 266, 3) := by decide +kernel
theorem dX11_reignsOf_17 : decode cX11_reignsOf 17 = .ok (.ishl, 1) := by decide +kernel
theorem dX11_reignsOf_18 : decode cX11_reignsOf 18 = .ok (.ior, 1) := by decide +kernel
theorem dX11_reignsOf_19 : decode cX11_reignsOf 19 = .ok (.iconst 1, 1) := by decide +kernel
theorem dX11_reignsOf_20 : decode cX11_reignsOf 20 = .ok (.aload_n 0, 1) := by decide +kernel
theorem dX11_reignsOf_21 : decode cX11_reignsOf 21 = .ok (.iload_n 1, 1) := by decide +kernel
theorem dX11_reignsOf_22 : decode cX11_reignsOf 22 = .ok (.iconst 2, 1) := by decide +kernel
theorem dX11_reignsOf_23 : decode cX11_reignsOf 23 = .ok (.iconst 3, 1) := by decide +kernel
theorem dX11_reignsOf_24 : decode cX11_reignsOf 24 = .ok (.invokevirtual 266, 3) := by decide +kernel
theorem dX11_reignsOf_27 : decode cX11_reignsOf 27 = .ok (.ishl, 1) := by decide +kernel
theorem dX11_reignsOf_28 : decode cX11_reignsOf 28 = .ok (.ior, 1) := by decide +kernel
theorem dX11_reignsOf_29 : decode cX11_reignsOf 29 = .ok (.invokestatic 273, 3) := by decide +kernel
theorem dX11_reignsOf_32 : decode cX11_reignsOf 32 = .ok (.ireturn, 1) := by decide +kernel
theorem ls_RX11_273 : gLs RX11 273 yJ6_bitCount_0f7a4 cJ6_bitCount_0f7a4 1 (some .int) 1 := gLs_of (wA_t (wt8 (List.mem_of_getElem? (i := 73) (by decide +kernel))) (by decide +kernel)) (wA_t (wt2 (List.mem_of_getElem? (i := 223) (by decide +kernel))) (by decide +kernel)) (wA_t (wt1 (List.mem_of_getElem? (i := 26) (by decide +kernel))) (by decide +kernel)) (wA_t (wt2 (List.mem_of_getElem? (i := 224) (by decide +kernel))) (by decide +kernel)) ⟨by decide +kernel, by decide +kernel, by decide +kernel⟩
def rm_X11_reignsOf : Room := { frames := 3, cells := 0, slots := 0, locals := 66 }
def f_X11_reignsOf (τ : gτ) (x0 : Nat) (x1 : Int32) (G : gG) : Option (Int32) :=
  (f_X11_yarnOf τ x0 x1 (0 : Int32) (3 : Int32) G).bind fun v1 =>
  (f_X11_yarnOf τ x0 x1 (1 : Int32) (3 : Int32) G).bind fun v2 =>
  (f_X11_yarnOf τ x0 x1 (2 : Int32) (3 : Int32) G).bind fun v3 =>
  (f_J6_bitCount_0f7a4 ((((1 : Int32) <<< (v1 &&& 31)) ||| ((1 : Int32) <<< (v2 &&& 31))) ||| ((1 : Int32) <<< (v3 &&& 31)))).bind fun v4 =>
  some (v4)
set_option maxHeartbeats 4000000 in
set_option maxRecDepth 100000 in
theorem c_X11_reignsOf (l : Launch) (X : gX) (τ : gτ) (x0 : Nat) (x1 : Int32) (G : gG) (h0 : gK τ x0 11) {r : Int32}  (h : f_X11_reignsOf τ x0 x1 G = some r) : gM l X τ yX11_reignsOf cX11_reignsOf 2 (some .int) rm_X11_reignsOf [.ref x0, .int x1] G (some (.int r)) G := by
  refine g_body (by decide +kernel) (Nat.le_of_ble_eq_true rfl) ?_
  intro p e s m args below meth c ls fx hr hw hl
  have fx : gFx X p s m args meth c cX11_reignsOf 2 RX11 := fx
  have hl : lv_has ls 2 [(0, .ref x0), (1, .int x1)] := hl
  have hok : gOk (f_X11_reignsOf τ x0 x1 G) (fun q => q = r) := ⟨_, h, rfl⟩
  unfold f_X11_reignsOf at hok
  show W p l e rm_X11_reignsOf s m args below meth c s.heap [] 0 0 (MQ below (gQ X τ (some (.int r)) G) args s 0 0 (gFree X)) _
  refine lv_iconst (v := 1) fx.1 fx.2.1 dX11_reignsOf_0 (by decide) ?_
  refine lv_aload_n fx.1 fx.2.1 dX11_reignsOf_1 rfl (lv_at hl 0 rfl) ?_
  refine lv_iload_n fx.1 fx.2.1 dX11_reignsOf_2 rfl (lv_at hl 1 rfl) ?_
  refine lv_iconst (v := 0) fx.1 fx.2.1 dX11_reignsOf_3 (by decide) ?_
  refine lv_iconst (v := 3) fx.1 fx.2.1 dX11_reignsOf_4 (by decide) ?_
  obtain ⟨v1, hf, hok⟩ := gOk_bind hok
  refine g_callV0 (κ := 11) fx hw (c_X11_yarnOf l X τ x0 x1 (0 : Int32) (3 : Int32) G h0 hf) lv_RX11_266 ⟨rfl, rfl⟩ rfl rfl h0 rfl hl.1 rfl ⟨Nat.le_of_ble_eq_true rfl, Nat.le_of_ble_eq_true rfl⟩ (Nat.le_of_ble_eq_true rfl) ⟨Nat.le_of_ble_eq_true rfl, Nat.le_of_ble_eq_true rfl⟩ dX11_reignsOf_5 (fun H locs hw => ?_)
  refine lv_ishl fx.1 fx.2.1 dX11_reignsOf_8 ?_
  refine lv_iconst (v := 1) fx.1 fx.2.1 dX11_reignsOf_9 (by decide) ?_
  refine lv_aload_n fx.1 fx.2.1 dX11_reignsOf_10 rfl (lv_at hl 0 rfl) ?_
  refine lv_iload_n fx.1 fx.2.1 dX11_reignsOf_11 rfl (lv_at hl 1 rfl) ?_
  refine lv_iconst (v := 1) fx.1 fx.2.1 dX11_reignsOf_12 (by decide) ?_
  refine lv_iconst (v := 3) fx.1 fx.2.1 dX11_reignsOf_13 (by decide) ?_
  obtain ⟨v2, hf, hok⟩ := gOk_bind hok
  refine g_callV0 (κ := 11) fx hw (c_X11_yarnOf l X τ x0 x1 (1 : Int32) (3 : Int32) G h0 hf) lv_RX11_266 ⟨rfl, rfl⟩ rfl rfl h0 rfl hl.1 rfl ⟨Nat.le_of_ble_eq_true rfl, Nat.le_of_ble_eq_true rfl⟩ (Nat.le_of_ble_eq_true rfl) ⟨Nat.le_of_ble_eq_true rfl, Nat.le_of_ble_eq_true rfl⟩ dX11_reignsOf_14 (fun H locs hw => ?_)
  refine lv_ishl fx.1 fx.2.1 dX11_reignsOf_17 ?_
  refine lv_ior fx.1 fx.2.1 dX11_reignsOf_18 ?_
  refine lv_iconst (v := 1) fx.1 fx.2.1 dX11_reignsOf_19 (by decide) ?_
  refine lv_aload_n fx.1 fx.2.1 dX11_reignsOf_20 rfl (lv_at hl 0 rfl) ?_
  refine lv_iload_n fx.1 fx.2.1 dX11_reignsOf_21 rfl (lv_at hl 1 rfl) ?_
  refine lv_iconst (v := 2) fx.1 fx.2.1 dX11_reignsOf_22 (by decide) ?_
  refine lv_iconst (v := 3) fx.1 fx.2.1 dX11_reignsOf_23 (by decide) ?_
  obtain ⟨v3, hf, hok⟩ := gOk_bind hok
  refine g_callV0 (κ := 11) fx hw (c_X11_yarnOf l X τ x0 x1 (2 : Int32) (3 : Int32) G h0 hf) lv_RX11_266 ⟨rfl, rfl⟩ rfl rfl h0 rfl hl.1 rfl ⟨Nat.le_of_ble_eq_true rfl, Nat.le_of_ble_eq_true rfl⟩ (Nat.le_of_ble_eq_true rfl) ⟨Nat.le_of_ble_eq_true rfl, Nat.le_of_ble_eq_true rfl⟩ dX11_reignsOf_24 (fun H locs hw => ?_)
  refine lv_ishl fx.1 fx.2.1 dX11_reignsOf_27 ?_
  refine lv_ior fx.1 fx.2.1 dX11_reignsOf_28 ?_
  obtain ⟨v4, hf, hok⟩ := gOk_bind hok
  refine g_callS0 fx hw (c_J6_bitCount_0f7a4 l X τ ((((1 : Int32) <<< (v1 &&& 31)) ||| ((1 : Int32) <<< (v2 &&& 31))) ||| ((1 : Int32) <<< (v3 &&& 31))) G  hf) ls_RX11_273 ⟨rfl, rfl⟩ rfl hl.1 rfl ⟨Nat.le_of_ble_eq_true rfl, Nat.le_of_ble_eq_true rfl⟩ (Nat.le_of_ble_eq_true rfl) ⟨Nat.le_of_ble_eq_true rfl, Nat.le_of_ble_eq_true rfl⟩ dX11_reignsOf_29 (fun H locs hw => ?_)
  cases gOk_some hok
  exact g_iret fx hw hr dX11_reignsOf_32
theorem dX11_factOf_0 : decode cX11_factOf 0 = .ok (.iload_n 1, 1) := by decide +kernel
theorem dX11_factOf_1 : decode cX11_factOf 1 = .ok (.tableswitch 146 0 10 #[59, 65, 71, 77, 83, 90, 97, 104, 112, 120, 128], 59) := by decide +kernel
theorem dX11_factOf_60 : decode cX11_factOf 60 = .ok (.aload_n 0, 1) := by decide +kernel
theorem dX11_factOf_61 : decode cX11_factOf 61 = .ok (.iload_n 3, 1) := by decide +kernel
theorem dX11_factOf_62 : decode cX11_factOf 62 = .ok (.invokevirtual 279, 3) := by decide +kernel
theorem dX11_factOf_65 : decode cX11_factOf 65 = .ok (.ireturn, 1) := by decide +kernel
theorem dX11_factOf_66 : decode cX11_factOf 66 = .ok (.aload_n 0, 1) := by decide +kernel
theorem dX11_factOf_67 : decode cX11_factOf 67 = .ok (.iload_n 3, 1) := by decide +kernel
theorem dX11_factOf_68 : decode cX11_factOf 68 = .ok (.invokevirtual 282, 3) := by decide +kernel
theorem dX11_factOf_71 : decode cX11_factOf 71 = .ok (.ireturn, 1) := by decide +kernel
theorem dX11_factOf_72 : decode cX11_factOf 72 = .ok (.aload_n 0, 1) := by decide +kernel
theorem dX11_factOf_73 : decode cX11_factOf 73 = .ok (.iload_n 3, 1) := by decide +kernel
theorem dX11_factOf_74 : decode cX11_factOf 74 = .ok (.invokevirtual 285, 3) := by decide +kernel
theorem dX11_factOf_77 : decode cX11_factOf 77 = .ok (.ireturn, 1) := by decide +kernel
theorem dX11_factOf_78 : decode cX11_factOf 78 = .ok (.aload_n 0, 1) := by decide +kernel
theorem dX11_factOf_79 : decode cX11_factOf 79 = .ok (.iload_n 3, 1) := by decide +kernel
theorem dX11_factOf_80 : decode cX11_factOf 80 = .ok (.invokevirtual 288, 3) := by decide +kernel
theorem dX11_factOf_83 : decode cX11_factOf 83 = .ok (.ireturn, 1) := by decide +kernel
theorem dX11_factOf_84 : decode cX11_factOf 84 = .ok (.aload_n 0, 1) := by decide +kernel
theorem dX11_factOf_85 : decode cX11_factOf 85 = .ok (.iload_n 3, 1) := by decide +kernel
theorem dX11_factOf_86 : decode cX11_factOf 86 = .ok (.iconst 4, 1) := by decide +kernel
theorem dX11_factOf_87 : decode cX11_factOf 87 = .ok (.invokevirtual 62, 3) := by decide +kernel
theorem dX11_factOf_90 : decode cX11_factOf 90 = .ok (.ireturn, 1) := by decide +kernel
theorem dX11_factOf_91 : decode cX11_factOf 91 = .ok (.aload_n 0, 1) := by decide +kernel
theorem dX11_factOf_92 : decode cX11_factOf 92 = .ok (.iload_n 3, 1) := by decide +kernel
theorem dX11_factOf_93 : decode cX11_factOf 93 = .ok (.iconst 5, 1) := by decide +kernel
theorem dX11_factOf_94 : decode cX11_factOf 94 = .ok (.invokevirtual 62, 3) := by decide +kernel
theorem dX11_factOf_97 : decode cX11_factOf 97 = .ok (.ireturn, 1) := by decide +kernel
theorem dX11_factOf_98 : decode cX11_factOf 98 = .ok (.aload_n 0, 1) := by decide +kernel
theorem dX11_factOf_99 : decode cX11_factOf 99 = .ok (.iload_n 3, 1) := by decide +kernel
theorem dX11_factOf_100 : decode cX11_factOf 100 = .ok (.iconst 3, 1) := by decide +kernel
theorem dX11_factOf_101 : decode cX11_factOf 101 = .ok (.invokevirtual 62, 3) := by decide +kernel
theorem dX11_factOf_104 : decode cX11_factOf 104 = .ok (.ireturn, 1) := by decide +kernel
theorem dX11_factOf_105 : decode cX11_factOf 105 = .ok (.aload_n 0, 1) := by decide +kernel
theorem dX11_factOf_106 : decode cX11_factOf 106 = .ok (.iload_n 3, 1) := by decide +kernel
theorem dX11_factOf_107 : decode cX11_factOf 107 = .ok (.bipush 7, 2) := by decide +kernel
theorem dX11_factOf_109 : decode cX11_factOf 109 = .ok (.invokevirtual 62, 3) := by decide +kernel
theorem dX11_factOf_112 : decode cX11_factOf 112 = .ok (.ireturn, 1) := by decide +kernel
theorem dX11_factOf_113 : decode cX11_factOf 113 = .ok (.aload_n 0, 1) := by decide +kernel
theorem dX11_factOf_114 : decode cX11_factOf 114 = .ok (.iload_n 3, 1) := by decide +kernel
theorem dX11_factOf_115 : decode cX11_factOf 115 = .ok (.bipush 9, 2) := by decide +kernel
theorem dX11_factOf_117 : decode cX11_factOf 117 = .ok (.invokevirtual 62, 3) := by decide +kernel
theorem dX11_factOf_120 : decode cX11_factOf 120 = .ok (.ireturn, 1) := by decide +kernel
theorem dX11_factOf_121 : decode cX11_factOf 121 = .ok (.aload_n 0, 1) := by decide +kernel
theorem dX11_factOf_122 : decode cX11_factOf 122 = .ok (.iload_n 3, 1) := by decide +kernel
theorem dX11_factOf_123 : decode cX11_factOf 123 = .ok (.bipush 6, 2) := by decide +kernel
theorem dX11_factOf_125 : decode cX11_factOf 125 = .ok (.invokevirtual 62, 3) := by decide +kernel
theorem dX11_factOf_128 : decode cX11_factOf 128 = .ok (.ireturn, 1) := by decide +kernel
theorem dX11_factOf_129 : decode cX11_factOf 129 = .ok (.aload_n 0, 1) := by decide +kernel
theorem dX11_factOf_130 : decode cX11_factOf 130 = .ok (.getfield 13, 3) := by decide +kernel
theorem dX11_factOf_133 : decode cX11_factOf 133 = .ok (.iconst 5, 1) := by decide +kernel
theorem dX11_factOf_134 : decode cX11_factOf 134 = .ok (.iaload, 1) := by decide +kernel
theorem dX11_factOf_135 : decode cX11_factOf 135 = .ok (.iconst 4, 1) := by decide +kernel
theorem dX11_factOf_136 : decode cX11_factOf 136 = .ok (.irem, 1) := by decide +kernel
theorem dX11_factOf_137 : decode cX11_factOf 137 = .ok (.iconst 3, 1) := by decide +kernel
theorem dX11_factOf_138 : decode cX11_factOf 138 = .ok (.if_icmp .ne 7, 3) := by decide +kernel
theorem dX11_factOf_141 : decode cX11_factOf 141 = .ok (.iconst 1, 1) := by decide +kernel
theorem dX11_factOf_142 : decode cX11_factOf 142 = .ok (.goto 4, 3) := by decide +kernel
theorem dX11_factOf_145 : decode cX11_factOf 145 = .ok (.iconst 0, 1) := by decide +kernel
theorem dX11_factOf_146 : decode cX11_factOf 146 = .ok (.ireturn, 1) := by decide +kernel
theorem dX11_factOf_147 : decode cX11_factOf 147 = .ok (.iload_n 2, 1) := by decide +kernel
theorem dX11_factOf_148 : decode cX11_factOf 148 = .ok (.ireturn, 1) := by decide +kernel
theorem lv_RX11_279 : gLv RX11 279 RX11 yX11_weakOf cX11_weakOf 2 (some .int) 1 := gLv_of (wA_t (wt8 (List.mem_of_getElem? (i := 53) (by decide +kernel))) (by decide +kernel)) (wA_t (wt8 (List.mem_of_getElem? (i := 55) (by decide +kernel))) (by decide +kernel)) (wA_of (List.mem_append_left _ (List.mem_map.mpr ⟨(⟨"YearRopeModel", "weakOf", "(I)I"⟩, 20), wp6 (List.mem_of_getElem? (i := 6) (by decide +kernel)), rfl⟩)) (by decide +kernel)) (wA_t (wt1 (List.mem_of_getElem? (i := 12) (by decide +kernel))) (by decide +kernel)) (wA_t (wt8 (List.mem_of_getElem? (i := 56) (by decide +kernel))) (by decide +kernel)) ⟨rfl, by decide +kernel, by decide +kernel, by decide +kernel⟩
theorem lv_RX11_282 : gLv RX11 282 RX11 yX11_strongOf cX11_strongOf 2 (some .int) 1 := gLv_of (wA_t (wt8 (List.mem_of_getElem? (i := 61) (by decide +kernel))) (by decide +kernel)) (wA_t (wt8 (List.mem_of_getElem? (i := 63) (by decide +kernel))) (by decide +kernel)) (wA_of (List.mem_append_left _ (List.mem_map.mpr ⟨(⟨"YearRopeModel", "strongOf", "(I)I"⟩, 20), wp6 (List.mem_of_getElem? (i := 8) (by decide +kernel)), rfl⟩)) (by decide +kernel)) (wA_t (wt1 (List.mem_of_getElem? (i := 12) (by decide +kernel))) (by decide +kernel)) (wA_t (wt8 (List.mem_of_getElem? (i := 64) (by decide +kernel))) (by decide +kernel)) ⟨rfl, by decide +kernel, by decide +kernel, by decide +kernel⟩
theorem lv_RX11_285 : gLv RX11 285 RX11 yX11_rotOf cX11_rotOf 2 (some .int) 1 := gLv_of (wA_t (wt8 (List.mem_of_getElem? (i := 65) (by decide +kernel))) (by decide +kernel)) (wA_t (wt8 (List.mem_of_getElem? (i := 67) (by decide +kernel))) (by decide +kernel)) (wA_of (List.mem_append_left _ (List.mem_map.mpr ⟨(⟨"YearRopeModel", "rotOf", "(I)I"⟩, 20), wp6 (List.mem_of_getElem? (i := 9) (by decide +kernel)), rfl⟩)) (by decide +kernel)) (wA_t (wt1 (List.mem_of_getElem? (i := 12) (by decide +kernel))) (by decide +kernel)) (wA_t (wt8 (List.mem_of_getElem? (i := 68) (by decide +kernel))) (by decide +kernel)) ⟨rfl, by decide +kernel, by decide +kernel, by decide +kernel⟩
theorem lv_RX11_288 : gLv RX11 288 RX11 yX11_reignsOf cX11_reignsOf 2 (some .int) 1 := gLv_of (wA_t (wt8 (List.mem_of_getElem? (i := 69) (by decide +kernel))) (by decide +kernel)) (wA_t (wt8 (List.mem_of_getElem? (i := 71) (by decide +kernel))) (by decide +kernel)) (wA_of (List.mem_append_left _ (List.mem_map.mpr ⟨(⟨"YearRopeModel", "reignsOf", "(I)I"⟩, 20), wp6 (List.mem_of_getElem? (i := 10) (by decide +kernel)), rfl⟩)) (by decide +kernel)) (wA_t (wt1 (List.mem_of_getElem? (i := 12) (by decide +kernel))) (by decide +kernel)) (wA_t (wt8 (List.mem_of_getElem? (i := 72) (by decide +kernel))) (by decide +kernel)) ⟨rfl, by decide +kernel, by decide +kernel, by decide +kernel⟩
def rm_X11_factOf : Room := { frames := 4, cells := 0, slots := 0, locals := 87 }
def f_X11_factOf (τ : gτ) (x0 : Nat) (x1 : Int32) (x2 : Int32) (x3 : Int32) (G : gG) : Option (Int32) :=
  if x1 = 0 then ((f_X11_weakOf τ x0 x3 G).bind fun v1 =>
  some (v1))
  else if x1 = 1 then ((f_X11_strongOf τ x0 x3 G).bind fun v2 =>
  some (v2))
  else if x1 = 2 then ((f_X11_rotOf τ x0 x3 G).bind fun v3 =>
  some (v3))
  else if x1 = 3 then ((f_X11_reignsOf τ x0 x3 G).bind fun v4 =>
  some (v4))
  else if x1 = 4 then ((f_X11_of τ x0 x3 (4 : Int32) G).bind fun v5 =>
  some (v5))
  else if x1 = 5 then ((f_X11_of τ x0 x3 (5 : Int32) G).bind fun v6 =>
  some (v6))
  else if x1 = 6 then ((f_X11_of τ x0 x3 (3 : Int32) G).bind fun v7 =>
  some (v7))
  else if x1 = 7 then ((f_X11_of τ x0 x3 (7 : Int32) G).bind fun v8 =>
  some (v8))
  else if x1 = 8 then ((f_X11_of τ x0 x3 (9 : Int32) G).bind fun v9 =>
  some (v9))
  else if x1 = 9 then ((f_X11_of τ x0 x3 (6 : Int32) G).bind fun v10 =>
  some (v10))
  else if x1 = 10 then ((gr G 11 1 x0).bind fun a11 =>
  gchk (gIn (5 : Int32) (gn τ a11)) <|
  if ((ge G a11 (Int32.toNatClampNeg (5 : Int32))) - (ge G a11 (Int32.toNatClampNeg (5 : Int32))) / (4 : Int32) * (4 : Int32)) = (3 : Int32) then (some (1))
  else (some (0)))
  else (some (x2))
set_option maxHeartbeats 4000000 in
set_option maxRecDepth 100000 in
theorem c_X11_factOf (l : Launch) (X : gX) (τ : gτ) (x0 : Nat) (x1 : Int32) (x2 : Int32) (x3 : Int32) (G : gG) (h0 : gK τ x0 11) {r : Int32}  (h : f_X11_factOf τ x0 x1 x2 x3 G = some r) : gM l X τ yX11_factOf cX11_factOf 4 (some .int) rm_X11_factOf [.ref x0, .int x1, .int x2, .int x3] G (some (.int r)) G := by
  refine g_body (by decide +kernel) (Nat.le_of_ble_eq_true rfl) ?_
  intro p e s m args below meth c ls fx hr hw hl
  have fx : gFx X p s m args meth c cX11_factOf 4 RX11 := fx
  have hl : lv_has ls 4 [(0, .ref x0), (1, .int x1), (2, .int x2), (3, .int x3)] := hl
  have hok : gOk (f_X11_factOf τ x0 x1 x2 x3 G) (fun q => q = r) := ⟨_, h, rfl⟩
  unfold f_X11_factOf at hok
  show W p l e rm_X11_factOf s m args below meth c s.heap [] 0 0 (MQ below (gQ X τ (some (.int r)) G) args s 0 0 (gFree X)) _
  refine lv_iload_n fx.1 fx.2.1 dX11_factOf_0 rfl (lv_at hl 1 rfl) ?_
  by_cases hc0 : x1 = 0
  · have hok := gOk_t hok hc0
    refine lv_tableIn (tgt := 60) fx.1 fx.2.1 dX11_factOf_1 (by rw [hc0]; decide) (by rw [hc0]; decide) (by rw [hc0]; rfl) (by decide) ?_
    refine lv_aload_n fx.1 fx.2.1 dX11_factOf_60 rfl (lv_at hl 0 rfl) ?_
    refine lv_iload_n fx.1 fx.2.1 dX11_factOf_61 rfl (lv_at hl 3 rfl) ?_
    obtain ⟨v1, hf, hok⟩ := gOk_bind hok
    refine g_callV0 (κ := 11) fx hw (c_X11_weakOf l X τ x0 x3 G h0 hf) lv_RX11_279 ⟨rfl, rfl⟩ rfl rfl h0 rfl hl.1 rfl ⟨Nat.le_of_ble_eq_true rfl, Nat.le_of_ble_eq_true rfl⟩ (Nat.le_of_ble_eq_true rfl) ⟨Nat.le_of_ble_eq_true rfl, Nat.le_of_ble_eq_true rfl⟩ dX11_factOf_62 (fun H locs hw => ?_)
    cases gOk_some hok
    exact g_iret fx hw hr dX11_factOf_65
  have hok := gOk_f hok hc0
  by_cases hc1 : x1 = 1
  · have hok := gOk_t hok hc1
    refine lv_tableIn (tgt := 66) fx.1 fx.2.1 dX11_factOf_1 (by rw [hc1]; decide) (by rw [hc1]; decide) (by rw [hc1]; rfl) (by decide) ?_
    refine lv_aload_n fx.1 fx.2.1 dX11_factOf_66 rfl (lv_at hl 0 rfl) ?_
    refine lv_iload_n fx.1 fx.2.1 dX11_factOf_67 rfl (lv_at hl 3 rfl) ?_
    obtain ⟨v2, hf, hok⟩ := gOk_bind hok
    refine g_callV0 (κ := 11) fx hw (c_X11_strongOf l X τ x0 x3 G h0 hf) lv_RX11_282 ⟨rfl, rfl⟩ rfl rfl h0 rfl hl.1 rfl ⟨Nat.le_of_ble_eq_true rfl, Nat.le_of_ble_eq_true rfl⟩ (Nat.le_of_ble_eq_true rfl) ⟨Nat.le_of_ble_eq_true rfl, Nat.le_of_ble_eq_true rfl⟩ dX11_factOf_68 (fun H locs hw => ?_)
    cases gOk_some hok
    exact g_iret fx hw hr dX11_factOf_71
  have hok := gOk_f hok hc1
  by_cases hc2 : x1 = 2
  · have hok := gOk_t hok hc2
    refine lv_tableIn (tgt := 72) fx.1 fx.2.1 dX11_factOf_1 (by rw [hc2]; decide) (by rw [hc2]; decide) (by rw [hc2]; rfl) (by decide) ?_
    refine lv_aload_n fx.1 fx.2.1 dX11_factOf_72 rfl (lv_at hl 0 rfl) ?_
    refine lv_iload_n fx.1 fx.2.1 dX11_factOf_73 rfl (lv_at hl 3 rfl) ?_
    obtain ⟨v3, hf, hok⟩ := gOk_bind hok
    refine g_callV0 (κ := 11) fx hw (c_X11_rotOf l X τ x0 x3 G h0 hf) lv_RX11_285 ⟨rfl, rfl⟩ rfl rfl h0 rfl hl.1 rfl ⟨Nat.le_of_ble_eq_true rfl, Nat.le_of_ble_eq_true rfl⟩ (Nat.le_of_ble_eq_true rfl) ⟨Nat.le_of_ble_eq_true rfl, Nat.le_of_ble_eq_true rfl⟩ dX11_factOf_74 (fun H locs hw => ?_)
    cases gOk_some hok
    exact g_iret fx hw hr dX11_factOf_77
  have hok := gOk_f hok hc2
  by_cases hc3 : x1 = 3
  · have hok := gOk_t hok hc3
    refine lv_tableIn (tgt := 78) fx.1 fx.2.1 dX11_factOf_1 (by rw [hc3]; decide) (by rw [hc3]; decide) (by rw [hc3]; rfl) (by decide) ?_
    refine lv_aload_n fx.1 fx.2.1 dX11_factOf_78 rfl (lv_at hl 0 rfl) ?_
    refine lv_iload_n fx.1 fx.2.1 dX11_factOf_79 rfl (lv_at hl 3 rfl) ?_
    obtain ⟨v4, hf, hok⟩ := gOk_bind hok
    refine g_callV0 (κ := 11) fx hw (c_X11_reignsOf l X τ x0 x3 G h0 hf) lv_RX11_288 ⟨rfl, rfl⟩ rfl rfl h0 rfl hl.1 rfl ⟨Nat.le_of_ble_eq_true rfl, Nat.le_of_ble_eq_true rfl⟩ (Nat.le_of_ble_eq_true rfl) ⟨Nat.le_of_ble_eq_true rfl, Nat.le_of_ble_eq_true rfl⟩ dX11_factOf_80 (fun H locs hw => ?_)
    cases gOk_some hok
    exact g_iret fx hw hr dX11_factOf_83
  have hok := gOk_f hok hc3
  by_cases hc4 : x1 = 4
  · have hok := gOk_t hok hc4
    refine lv_tableIn (tgt := 84) fx.1 fx.2.1 dX11_factOf_1 (by rw [hc4]; decide) (by rw [hc4]; decide) (by rw [hc4]; rfl) (by decide) ?_
    refine lv_aload_n fx.1 fx.2.1 dX11_factOf_84 rfl (lv_at hl 0 rfl) ?_
    refine lv_iload_n fx.1 fx.2.1 dX11_factOf_85 rfl (lv_at hl 3 rfl) ?_
    refine lv_iconst (v := 4) fx.1 fx.2.1 dX11_factOf_86 (by decide) ?_
    obtain ⟨v5, hf, hok⟩ := gOk_bind hok
    refine g_callV0 (κ := 11) fx hw (c_X11_of l X τ x0 x3 (4 : Int32) G h0 hf) lv_RX11_62 ⟨rfl, rfl⟩ rfl rfl h0 rfl hl.1 rfl ⟨Nat.le_of_ble_eq_true rfl, Nat.le_of_ble_eq_true rfl⟩ (Nat.le_of_ble_eq_true rfl) ⟨Nat.le_of_ble_eq_true rfl, Nat.le_of_ble_eq_true rfl⟩ dX11_factOf_87 (fun H locs hw => ?_)
    cases gOk_some hok
    exact g_iret fx hw hr dX11_factOf_90
  have hok := gOk_f hok hc4
  by_cases hc5 : x1 = 5
  · have hok := gOk_t hok hc5
    refine lv_tableIn (tgt := 91) fx.1 fx.2.1 dX11_factOf_1 (by rw [hc5]; decide) (by rw [hc5]; decide) (by rw [hc5]; rfl) (by decide) ?_
    refine lv_aload_n fx.1 fx.2.1 dX11_factOf_91 rfl (lv_at hl 0 rfl) ?_
    refine lv_iload_n fx.1 fx.2.1 dX11_factOf_92 rfl (lv_at hl 3 rfl) ?_
    refine lv_iconst (v := 5) fx.1 fx.2.1 dX11_factOf_93 (by decide) ?_
    obtain ⟨v6, hf, hok⟩ := gOk_bind hok
    refine g_callV0 (κ := 11) fx hw (c_X11_of l X τ x0 x3 (5 : Int32) G h0 hf) lv_RX11_62 ⟨rfl, rfl⟩ rfl rfl h0 rfl hl.1 rfl ⟨Nat.le_of_ble_eq_true rfl, Nat.le_of_ble_eq_true rfl⟩ (Nat.le_of_ble_eq_true rfl) ⟨Nat.le_of_ble_eq_true rfl, Nat.le_of_ble_eq_true rfl⟩ dX11_factOf_94 (fun H locs hw => ?_)
    cases gOk_some hok
    exact g_iret fx hw hr dX11_factOf_97
  have hok := gOk_f hok hc5
  by_cases hc6 : x1 = 6
  · have hok := gOk_t hok hc6
    refine lv_tableIn (tgt := 98) fx.1 fx.2.1 dX11_factOf_1 (by rw [hc6]; decide) (by rw [hc6]; decide) (by rw [hc6]; rfl) (by decide) ?_
    refine lv_aload_n fx.1 fx.2.1 dX11_factOf_98 rfl (lv_at hl 0 rfl) ?_
    refine lv_iload_n fx.1 fx.2.1 dX11_factOf_99 rfl (lv_at hl 3 rfl) ?_
    refine lv_iconst (v := 3) fx.1 fx.2.1 dX11_factOf_100 (by decide) ?_
    obtain ⟨v7, hf, hok⟩ := gOk_bind hok
    refine g_callV0 (κ := 11) fx hw (c_X11_of l X τ x0 x3 (3 : Int32) G h0 hf) lv_RX11_62 ⟨rfl, rfl⟩ rfl rfl h0 rfl hl.1 rfl ⟨Nat.le_of_ble_eq_true rfl, Nat.le_of_ble_eq_true rfl⟩ (Nat.le_of_ble_eq_true rfl) ⟨Nat.le_of_ble_eq_true rfl, Nat.le_of_ble_eq_true rfl⟩ dX11_factOf_101 (fun H locs hw => ?_)
    cases gOk_some hok
    exact g_iret fx hw hr dX11_factOf_104
  have hok := gOk_f hok hc6
  by_cases hc7 : x1 = 7
  · have hok := gOk_t hok hc7
    refine lv_tableIn (tgt := 105) fx.1 fx.2.1 dX11_factOf_1 (by rw [hc7]; decide) (by rw [hc7]; decide) (by rw [hc7]; rfl) (by decide) ?_
    refine lv_aload_n fx.1 fx.2.1 dX11_factOf_105 rfl (lv_at hl 0 rfl) ?_
    refine lv_iload_n fx.1 fx.2.1 dX11_factOf_106 rfl (lv_at hl 3 rfl) ?_
    refine lv_bipush (v := 7) fx.1 fx.2.1 dX11_factOf_107 (by decide) ?_
    obtain ⟨v8, hf, hok⟩ := gOk_bind hok
    refine g_callV0 (κ := 11) fx hw (c_X11_of l X τ x0 x3 (7 : Int32) G h0 hf) lv_RX11_62 ⟨rfl, rfl⟩ rfl rfl h0 rfl hl.1 rfl ⟨Nat.le_of_ble_eq_true rfl, Nat.le_of_ble_eq_true rfl⟩ (Nat.le_of_ble_eq_true rfl) ⟨Nat.le_of_ble_eq_true rfl, Nat.le_of_ble_eq_true rfl⟩ dX11_factOf_109 (fun H locs hw => ?_)
    cases gOk_some hok
    exact g_iret fx hw hr dX11_factOf_112
  have hok := gOk_f hok hc7
  by_cases hc8 : x1 = 8
  · have hok := gOk_t hok hc8
    refine lv_tableIn (tgt := 113) fx.1 fx.2.1 dX11_factOf_1 (by rw [hc8]; decide) (by rw [hc8]; decide) (by rw [hc8]; rfl) (by decide) ?_
    refine lv_aload_n fx.1 fx.2.1 dX11_factOf_113 rfl (lv_at hl 0 rfl) ?_
    refine lv_iload_n fx.1 fx.2.1 dX11_factOf_114 rfl (lv_at hl 3 rfl) ?_
    refine lv_bipush (v := 9) fx.1 fx.2.1 dX11_factOf_115 (by decide) ?_
    obtain ⟨v9, hf, hok⟩ := gOk_bind hok
    refine g_callV0 (κ := 11) fx hw (c_X11_of l X τ x0 x3 (9 : Int32) G h0 hf) lv_RX11_62 ⟨rfl, rfl⟩ rfl rfl h0 rfl hl.1 rfl ⟨Nat.le_of_ble_eq_true rfl, Nat.le_of_ble_eq_true rfl⟩ (Nat.le_of_ble_eq_true rfl) ⟨Nat.le_of_ble_eq_true rfl, Nat.le_of_ble_eq_true rfl⟩ dX11_factOf_117 (fun H locs hw => ?_)
    cases gOk_some hok
    exact g_iret fx hw hr dX11_factOf_120
  have hok := gOk_f hok hc8
  by_cases hc9 : x1 = 9
  · have hok := gOk_t hok hc9
    refine lv_tableIn (tgt := 121) fx.1 fx.2.1 dX11_factOf_1 (by rw [hc9]; decide) (by rw [hc9]; decide) (by rw [hc9]; rfl) (by decide) ?_
    refine lv_aload_n fx.1 fx.2.1 dX11_factOf_121 rfl (lv_at hl 0 rfl) ?_
    refine lv_iload_n fx.1 fx.2.1 dX11_factOf_122 rfl (lv_at hl 3 rfl) ?_
    refine lv_bipush (v := 6) fx.1 fx.2.1 dX11_factOf_123 (by decide) ?_
    obtain ⟨v10, hf, hok⟩ := gOk_bind hok
    refine g_callV0 (κ := 11) fx hw (c_X11_of l X τ x0 x3 (6 : Int32) G h0 hf) lv_RX11_62 ⟨rfl, rfl⟩ rfl rfl h0 rfl hl.1 rfl ⟨Nat.le_of_ble_eq_true rfl, Nat.le_of_ble_eq_true rfl⟩ (Nat.le_of_ble_eq_true rfl) ⟨Nat.le_of_ble_eq_true rfl, Nat.le_of_ble_eq_true rfl⟩ dX11_factOf_125 (fun H locs hw => ?_)
    cases gOk_some hok
    exact g_iret fx hw hr dX11_factOf_128
  have hok := gOk_f hok hc9
  by_cases hc10 : x1 = 10
  · have hok := gOk_t hok hc10
    refine lv_tableIn (tgt := 129) fx.1 fx.2.1 dX11_factOf_1 (by rw [hc10]; decide) (by rw [hc10]; decide) (by rw [hc10]; rfl) (by decide) ?_
    refine lv_aload_n fx.1 fx.2.1 dX11_factOf_129 rfl (lv_at hl 0 rfl) ?_
    refine g_getr fx hw h0 lf_RX11_13 rfl dX11_factOf_130 hok (fun a11 h_a11 hok => ?_)
    refine lv_iconst (v := 5) fx.1 fx.2.1 dX11_factOf_133 (by decide) ?_
    refine g_iald fx hw h_a11 dX11_factOf_134 hok (fun hok => ?_)
    refine lv_iconst (v := 4) fx.1 fx.2.1 dX11_factOf_135 (by decide) ?_
    refine lv_irem fx.1 fx.2.1 dX11_factOf_136 (by decide) ?_
    refine lv_iconst (v := 3) fx.1 fx.2.1 dX11_factOf_137 (by decide) ?_
    refine g_icmp_ne (tgt := 145) fx dX11_factOf_138 (by decide) hok (fun hok => ?_) (fun hok => ?_)
    · refine lv_iconst (v := 1) fx.1 fx.2.1 dX11_factOf_141 (by decide) ?_
      refine lv_goto (tgt := 146) fx.1 fx.2.1 dX11_factOf_142 (by decide) ?_
      cases gOk_some hok
      exact g_iret fx hw hr dX11_factOf_146
    · refine lv_iconst (v := 0) fx.1 fx.2.1 dX11_factOf_145 (by decide) ?_
      cases gOk_some hok
      exact g_iret fx hw hr dX11_factOf_146
  have hok := gOk_f hok hc10
  refine lv_tableOut (tgt := 147) fx.1 fx.2.1 dX11_factOf_1 (gOut 0 11 (by decide) (by decide) (by decide) (by decide) (fun j hj => ?_)) (by decide) ?_
  · match j, hj with
    | 0, _ => exact hc0
    | 1, _ => exact hc1
    | 2, _ => exact hc2
    | 3, _ => exact hc3
    | 4, _ => exact hc4
    | 5, _ => exact hc5
    | 6, _ => exact hc6
    | 7, _ => exact hc7
    | 8, _ => exact hc8
    | 9, _ => exact hc9
    | 10, _ => exact hc10
  · refine lv_iload_n fx.1 fx.2.1 dX11_factOf_147 rfl (lv_at hl 2 rfl) ?_
    cases gOk_some hok
    exact g_iret fx hw hr dX11_factOf_148
theorem dX11_holdsLine_0 : decode cX11_holdsLine 0 = .ok (.iconst 0, 1) := by decide +kernel
theorem dX11_holdsLine_1 : decode cX11_holdsLine 1 = .ok (.istore_n 3, 1) := by decide +kernel
theorem dX11_holdsLine_2 : decode cX11_holdsLine 2 = .ok (.sipush 468, 3) := by decide +kernel
theorem dX11_holdsLine_5 : decode cX11_holdsLine 5 = .ok (.iconst 4, 1) := by decide +kernel
theorem dX11_holdsLine_6 : decode cX11_holdsLine 6 = .ok (.iload_n 1, 1) := by decide +kernel
theorem dX11_holdsLine_7 : decode cX11_holdsLine 7 = .ok (.imul, 1) := by decide +kernel
theorem dX11_holdsLine_8 : decode cX11_holdsLine 8 = .ok (.iadd, 1) := by decide +kernel
theorem dX11_holdsLine_9 : decode cX11_holdsLine 9 = .ok (.istore 4, 2) := by decide +kernel
theorem dX11_holdsLine_11 : decode cX11_holdsLine 11 = .ok (.aload_n 0, 1) := by decide +kernel
theorem dX11_holdsLine_12 : decode cX11_holdsLine 12 = .ok (.getfield 13, 3) := by decide +kernel
theorem dX11_holdsLine_15 : decode cX11_holdsLine 15 = .ok (.iload 4, 2) := by decide +kernel
theorem dX11_holdsLine_17 : decode cX11_holdsLine 17 = .ok (.iconst 2, 1) := by decide +kernel
theorem dX11_holdsLine_18 : decode cX11_holdsLine 18 = .ok (.iadd, 1) := by decide +kernel
theorem dX11_holdsLine_19 : decode cX11_holdsLine 19 = .ok (.iaload, 1) := by decide +kernel
theorem dX11_holdsLine_20 : decode cX11_holdsLine 20 = .ok (.istore 5, 2) := by decide +kernel
theorem dX11_holdsLine_22 : decode cX11_holdsLine 22 = .ok (.iload 5, 2) := by decide +kernel
theorem dX11_holdsLine_24 : decode cX11_holdsLine 24 = .ok (.aload_n 0, 1) := by decide +kernel
theorem dX11_holdsLine_25 : decode cX11_holdsLine 25 = .ok (.getfield 13, 3) := by decide +kernel
theorem dX11_holdsLine_28 : decode cX11_holdsLine 28 = .ok (.iload 4, 2) := by decide +kernel
theorem dX11_holdsLine_30 : decode cX11_holdsLine 30 = .ok (.iconst 3, 1) := by decide +kernel
theorem dX11_holdsLine_31 : decode cX11_holdsLine 31 = .ok (.iadd, 1) := by decide +kernel
theorem dX11_holdsLine_32 : decode cX11_holdsLine 32 = .ok (.iaload, 1) := by decide +kernel
theorem dX11_holdsLine_33 : decode cX11_holdsLine 33 = .ok (.if_icmp .ge 230, 3) := by decide +kernel
theorem dX11_holdsLine_36 : decode cX11_holdsLine 36 = .ok (.aload_n 0, 1) := by decide +kernel
theorem dX11_holdsLine_37 : decode cX11_holdsLine 37 = .ok (.getfield 13, 3) := by decide +kernel
theorem dX11_holdsLine_40 : decode cX11_holdsLine 40 = .ok (.sipush 516, 3) := by decide +kernel
theorem dX11_holdsLine_43 : decode cX11_holdsLine 43 = .ok (.iconst 2, 1) := by decide +kernel
theorem dX11_holdsLine_44 : decode cX11_holdsLine 44 = .ok (.iload 5, 2) := by decide +kernel
theorem dX11_holdsLine_46 : decode cX11_holdsLine 46 = .ok (.imul, 1) := by decide +kernel
theorem dX11_holdsLine_47 : decode cX11_holdsLine 47 = .ok (.iadd, 1) := by decide +kernel
theorem dX11_holdsLine_48 : decode cX11_holdsLine 48 = .ok (.iaload, 1) := by decide +kernel
theorem dX11_holdsLine_49 : decode cX11_holdsLine 49 = .ok (.istore 6, 2) := by decide +kernel
theorem dX11_holdsLine_51 : decode cX11_holdsLine 51 = .ok (.iload 6, 2) := by decide +kernel
theorem dX11_holdsLine_53 : decode cX11_holdsLine 53 = .ok (.bipush 11, 2) := by decide +kernel
theorem dX11_holdsLine_55 : decode cX11_holdsLine 55 = .ok (.if_icmp .gt 37, 3) := by decide +kernel
theorem dX11_holdsLine_58 : decode cX11_holdsLine 58 = .ok (.aload_n 0, 1) := by decide +kernel
theorem dX11_holdsLine_59 : decode cX11_holdsLine 59 = .ok (.getfield 39, 3) := by decide +kernel
theorem dX11_holdsLine_62 : decode cX11_holdsLine 62 = .ok (.iload_n 3, 1) := by decide +kernel
theorem dX11_holdsLine_63 : decode cX11_holdsLine 63 = .ok (.aload_n 0, 1) := by decide +kernel
theorem dX11_holdsLine_64 : decode cX11_holdsLine 64 = .ok (.iload 6, 2) := by decide +kernel
theorem dX11_holdsLine_66 : decode cX11_holdsLine 66 = .ok (.aload_n 0, 1) := by decide +kernel
theorem dX11_holdsLine_67 : decode cX11_holdsLine 67 = .ok (.getfield 13, 3) := by decide +kernel
theorem dX11_holdsLine_70 : decode cX11_holdsLine 70 = .ok (.sipush 516, 3) := by decide +kernel
theorem dX11_holdsLine_73 : decode cX11_holdsLine 73 = .ok (.iconst 2, 1) := by decide +kernel
theorem dX11_holdsLine_74 : decode cX11_holdsLine 74 = .ok (.iload 5, 2) := by decide +kernel
theorem dX11_holdsLine_76 : decode cX11_holdsLine 76 = .ok (.imul, 1) := by decide +kernel
theorem dX11_holdsLine_77 : decode cX11_holdsLine 77 = .ok (.iadd, 1) := by decide +kernel
theorem dX11_holdsLine_78 : decode cX11_holdsLine 78 = .ok (.iconst 1, 1) := by decide +kernel
theorem dX11_holdsLine_79 : decode cX11_holdsLine 79 = .ok (.iadd, 1) := by decide +kernel
theorem dX11_holdsLine_80 : decode cX11_holdsLine 80 = .ok (.iaload, 1) := by decide +kernel
theorem dX11_holdsLine_81 : decode cX11_holdsLine 81 = .ok (.iload_n 2, 1) := by decide +kernel
theorem dX11_holdsLine_82 : decode cX11_holdsLine 82 = .ok (.invokevirtual 291, 3) := by decide +kernel
theorem dX11_holdsLine_85 : decode cX11_holdsLine 85 = .ok (.iastore, 1) := by decide +kernel
theorem dX11_holdsLine_86 : decode cX11_holdsLine 86 = .ok (.iinc 3 1, 3) := by decide +kernel
theorem dX11_holdsLine_89 : decode cX11_holdsLine 89 = .ok (.goto 168, 3) := by decide +kernel
theorem dX11_holdsLine_92 : decode cX11_holdsLine 92 = .ok (.iload 6, 2) := by decide +kernel
theorem dX11_holdsLine_94 : decode cX11_holdsLine 94 = .ok (.bipush 15, 2) := by decide +kernel
theorem dX11_holdsLine_96 : decode cX11_holdsLine 96 = .ok (.if_icmp .ne 24, 3) := by decide +kernel
theorem dX11_holdsLine_99 : decode cX11_holdsLine 99 = .ok (.aload_n 0, 1) := by decide +kernel
theorem dX11_holdsLine_100 : decode cX11_holdsLine 100 = .ok (.getfield 39, 3) := by decide +kernel
theorem dX11_holdsLine_103 : decode cX11_holdsLine 103 = .ok (.iload_n 3, 1) := by decide +kernel
theorem dX11_holdsLine_104 : decode cX11_holdsLine 104 = .ok (.iconst 1, 1) := by decide +kernel
theorem dX11_holdsLine_105 : decode cX11_holdsLine 105 = .ok (.isub, 1) := by decide +kernel
theorem dX11_holdsLine_106 : decode cX11_holdsLine 106 = .ok (.iconst 1, 1) := by decide +kernel
theorem dX11_holdsLine_107 : decode cX11_holdsLine 107 = .ok (.aload_n 0, 1) := by decide +kernel
theorem dX11_holdsLine_108 : decode cX11_holdsLine 108 = .ok (.getfield 39, 3) := by decide +kernel
theorem dX11_holdsLine_111 : decode cX11_holdsLine 111 = .ok (.iload_n 3, 1) := by decide +kernel
theorem dX11_holdsLine_112 : decode cX11_holdsLine 112 = .ok (.iconst 1, 1) := by decide +kernel
theorem dX11_holdsLine_113 : decode cX11_holdsLine 113 = .ok (.isub, 1) := by decide +kernel
theorem dX11_holdsLine_114 : decode cX11_holdsLine 114 = .ok (.iaload, 1) := by decide +kernel
theorem dX11_holdsLine_115 : decode cX11_holdsLine 115 = .ok (.isub, 1) := by decide +kernel
theorem dX11_holdsLine_116 : decode cX11_holdsLine 116 = .ok (.iastore, 1) := by decide +kernel
theorem dX11_holdsLine_117 : decode cX11_holdsLine 117 = .ok (.goto 140, 3) := by decide +kernel
theorem dX11_holdsLine_120 : decode cX11_holdsLine 120 = .ok (.iinc 3 (-1), 3) := by decide +kernel
theorem dX11_holdsLine_123 : decode cX11_holdsLine 123 = .ok (.aload_n 0, 1) := by decide +kernel
theorem dX11_holdsLine_124 : decode cX11_holdsLine 124 = .ok (.getfield 39, 3) := by decide +kernel
theorem dX11_holdsLine_127 : decode cX11_holdsLine 127 = .ok (.iload_n 3, 1) := by decide +kernel
theorem dX11_holdsLine_128 : decode cX11_holdsLine 128 = .ok (.iconst 1, 1) := by decide +kernel
theorem dX11_holdsLine_129 : decode cX11_holdsLine 129 = .ok (.isub, 1) := by decide +kernel
theorem dX11_holdsLine_130 : decode cX11_holdsLine 130 = .ok (.iaload, 1) := by decide +kernel
theorem dX11_holdsLine_131 : decode cX11_holdsLine 131 = .ok (.istore 7, 2) := by decide +kernel
theorem dX11_holdsLine_133 : decode cX11_holdsLine 133 = .ok (.aload_n 0, 1) := by decide +kernel
theorem dX11_holdsLine_134 : decode cX11_holdsLine 134 = .ok (.getfield 39, 3) := by decide +kernel
theorem dX11_holdsLine_137 : decode cX11_holdsLine 137 = .ok (.iload_n 3, 1) := by decide +kernel
theorem dX11_holdsLine_138 : decode cX11_holdsLine 138 = .ok (.iaload, 1) := by decide +kernel
theorem dX11_holdsLine_139 : decode cX11_holdsLine 139 = .ok (.istore 8, 2) := by decide +kernel
theorem dX11_holdsLine_141 : decode cX11_holdsLine 141 = .ok (.iload 6, 2) := by decide +kernel
theorem dX11_holdsLine_143 : decode cX11_holdsLine 143 = .ok (.bipush 13, 2) := by decide +kernel
theorem dX11_holdsLine_145 : decode cX11_holdsLine 145 = .ok (.if_icmp .ne 18, 3) := by decide +kernel
theorem dX11_holdsLine_148 : decode cX11_holdsLine 148 = .ok (.iload 7, 2) := by decide +kernel
theorem dX11_holdsLine_150 : decode cX11_holdsLine 150 = .ok (.iload 8, 2) := by decide +kernel
theorem dX11_holdsLine_152 : decode cX11_holdsLine 152 = .ok (.if_icmp .ge 7, 3) := by decide +kernel
theorem dX11_holdsLine_155 : decode cX11_holdsLine 155 = .ok (.iconst 1, 1) := by decide +kernel
theorem dX11_holdsLine_156 : decode cX11_holdsLine 156 = .ok (.goto 66, 3) := by decide +kernel
theorem dX11_holdsLine_159 : decode cX11_holdsLine 159 = .ok (.iconst 0, 1) := by decide +kernel
theorem dX11_holdsLine_160 : decode cX11_holdsLine 160 = .ok (.goto 62, 3) := by decide +kernel
theorem dX11_holdsLine_163 : decode cX11_holdsLine 163 = .ok (.iload 6, 2) := by decide +kernel
theorem dX11_holdsLine_165 : decode cX11_holdsLine 165 = .ok (.bipush 14, 2) := by decide +kernel
theorem dX11_holdsLine_167 : decode cX11_holdsLine 167 = .ok (.if_icmp .ne 18, 3) := by decide +kernel
theorem dX11_holdsLine_170 : decode cX11_holdsLine 170 = .ok (.iload 7, 2) := by decide +kernel
theorem dX11_holdsLine_172 : decode cX11_holdsLine 172 = .ok (.iload 8, 2) := by decide +kernel
theorem dX11_holdsLine_174 : decode cX11_holdsLine 174 = .ok (.if_icmp .le 7, 3) := by decide +kernel
theorem dX11_holdsLine_177 : decode cX11_holdsLine 177 = .ok (.iconst 1, 1) := by decide +kernel
theorem dX11_holdsLine_178 : decode cX11_holdsLine 178 = .ok (.goto 44, 3) := by decide +kernel
theorem dX11_holdsLine_181 : decode cX11_holdsLine 181 = .ok (.iconst 0, 1) := by decide +kernel
theorem dX11_holdsLine_182 : decode cX11_holdsLine 182 = .ok (.goto 40, 3) := by decide +kernel
theorem dX11_holdsLine_185 : decode cX11_holdsLine 185 = .ok (.iload 6, 2) := by decide +kernel
theorem dX11_holdsLine_187 : decode cX11_holdsLine 187 = .ok (.bipush 16, 2) := by decide +kernel
theorem dX11_holdsLine_189 : decode cX11_holdsLine 189 = .ok (.if_icmp .ne 20, 3) := by decide +kernel
theorem dX11_holdsLine_192 : decode cX11_holdsLine 192 = .ok (.iload 7, 2) := by decide +kernel
theorem dX11_holdsLine_194 : decode cX11_holdsLine 194 = .ok (.iload 8, 2) := by decide +kernel
theorem dX11_holdsLine_196 : decode cX11_holdsLine 196 = .ok (.iadd, 1) := by decide +kernel
theorem dX11_holdsLine_197 : decode cX11_holdsLine 197 = .ok (.iconst 2, 1) := by decide +kernel
theorem dX11_holdsLine_198 : decode cX11_holdsLine 198 = .ok (.if_icmp .ne 7, 3) := by decide +kernel
theorem dX11_holdsLine_201 : decode cX11_holdsLine 201 = .ok (.iconst 1, 1) := by decide +kernel
theorem dX11_holdsLine_202 : decode cX11_holdsLine 202 = .ok (.goto 20, 3) := by decide +kernel
theorem dX11_holdsLine_205 : decode cX11_holdsLine 205 = .ok (.iconst 0, 1) := by decide +kernel
theorem dX11_holdsLine_206 : decode cX11_holdsLine 206 = .ok (.goto 16, 3) := by decide +kernel
theorem dX11_holdsLine_209 : decode cX11_holdsLine 209 = .ok (.iload 7, 2) := by decide +kernel
theorem dX11_holdsLine_211 : decode cX11_holdsLine 211 = .ok (.iload 8, 2) := by decide +kernel
theorem dX11_holdsLine_213 : decode cX11_holdsLine 213 = .ok (.iadd, 1) := by decide +kernel
theorem dX11_holdsLine_214 : decode cX11_holdsLine 214 = .ok (.ifCond .le 7, 3) := by decide +kernel
theorem dX11_holdsLine_217 : decode cX11_holdsLine 217 = .ok (.iconst 1, 1) := by decide +kernel
theorem dX11_holdsLine_218 : decode cX11_holdsLine 218 = .ok (.goto 4, 3) := by decide +kernel
theorem dX11_holdsLine_221 : decode cX11_holdsLine 221 = .ok (.iconst 0, 1) := by decide +kernel
theorem dX11_holdsLine_222 : decode cX11_holdsLine 222 = .ok (.istore 9, 2) := by decide +kernel
theorem dX11_holdsLine_224 : decode cX11_holdsLine 224 = .ok (.aload_n 0, 1) := by decide +kernel
theorem dX11_holdsLine_225 : decode cX11_holdsLine 225 = .ok (.getfield 39, 3) := by decide +kernel
theorem dX11_holdsLine_228 : decode cX11_holdsLine 228 = .ok (.iload_n 3, 1) := by decide +kernel
theorem dX11_holdsLine_229 : decode cX11_holdsLine 229 = .ok (.iconst 1, 1) := by decide +kernel
theorem dX11_holdsLine_230 : decode cX11_holdsLine 230 = .ok (.isub, 1) := by decide +kernel
theorem dX11_holdsLine_231 : decode cX11_holdsLine 231 = .ok (.iload 6, 2) := by decide +kernel
theorem dX11_holdsLine_233 : decode cX11_holdsLine 233 = .ok (.bipush 12, 2) := by decide +kernel
theorem dX11_holdsLine_235 : decode cX11_holdsLine 235 = .ok (.if_icmp .ne 11, 3) := by decide +kernel
theorem dX11_holdsLine_238 : decode cX11_holdsLine 238 = .ok (.iload 7, 2) := by decide +kernel
theorem dX11_holdsLine_240 : decode cX11_holdsLine 240 = .ok (.iload 8, 2) := by decide +kernel
theorem dX11_holdsLine_242 : decode cX11_holdsLine 242 = .ok (.iadd, 1) := by decide +kernel
theorem dX11_holdsLine_243 : decode cX11_holdsLine 243 = .ok (.goto 13, 3) := by decide +kernel
theorem dX11_holdsLine_246 : decode cX11_holdsLine 246 = .ok (.iload 9, 2) := by decide +kernel
theorem dX11_holdsLine_248 : decode cX11_holdsLine 248 = .ok (.ifCond .eq 7, 3) := by decide +kernel
theorem dX11_holdsLine_251 : decode cX11_holdsLine 251 = .ok (.iconst 1, 1) := by decide +kernel
theorem dX11_holdsLine_252 : decode cX11_holdsLine 252 = .ok (.goto 4, 3) := by decide +kernel
theorem dX11_holdsLine_255 : decode cX11_holdsLine 255 = .ok (.iconst 0, 1) := by decide +kernel
theorem dX11_holdsLine_256 : decode cX11_holdsLine 256 = .ok (.iastore, 1) := by decide +kernel
theorem dX11_holdsLine_257 : decode cX11_holdsLine 257 = .ok (.iinc 5 1, 3) := by decide +kernel
theorem dX11_holdsLine_260 : decode cX11_holdsLine 260 = .ok (.goto (-238), 3) := by decide +kernel
theorem dX11_holdsLine_263 : decode cX11_holdsLine 263 = .ok (.iload_n 3, 1) := by decide +kernel
theorem dX11_holdsLine_264 : decode cX11_holdsLine 264 = .ok (.ifCond .eq 13, 3) := by decide +kernel
theorem dX11_holdsLine_267 : decode cX11_holdsLine 267 = .ok (.aload_n 0, 1) := by decide +kernel
theorem dX11_holdsLine_268 : decode cX11_holdsLine 268 = .ok (.getfield 39, 3) := by decide +kernel
theorem dX11_holdsLine_271 : decode cX11_holdsLine 271 = .ok (.iconst 0, 1) := by decide +kernel
theorem dX11_holdsLine_272 : decode cX11_holdsLine 272 = .ok (.iaload, 1) := by decide +kernel
theorem dX11_holdsLine_273 : decode cX11_holdsLine 273 = .ok (.iconst 1, 1) := by decide +kernel
theorem dX11_holdsLine_274 : decode cX11_holdsLine 274 = .ok (.if_icmp .ne 7, 3) := by decide +kernel
theorem dX11_holdsLine_277 : decode cX11_holdsLine 277 = .ok (.iconst 1, 1) := by decide +kernel
theorem dX11_holdsLine_278 : decode cX11_holdsLine 278 = .ok (.goto 4, 3) := by decide +kernel
theorem dX11_holdsLine_281 : decode cX11_holdsLine 281 = .ok (.iconst 0, 1) := by decide +kernel
theorem dX11_holdsLine_282 : decode cX11_holdsLine 282 = .ok (.ireturn, 1) := by decide +kernel
theorem lf_RX11_39 : gLf RX11 39 11 17 := ⟨(RX11, TX11, 20), rfl, by decide, wA_t (wt6 (List.mem_of_getElem? (i := 230) (by decide +kernel))) (by decide +kernel), rfl⟩
theorem lv_RX11_291 : gLv RX11 291 RX11 yX11_factOf cX11_factOf 4 (some .int) 3 := gLv_of (wA_t (wt8 (List.mem_of_getElem? (i := 49) (by decide +kernel))) (by decide +kernel)) (wA_t (wt8 (List.mem_of_getElem? (i := 51) (by decide +kernel))) (by decide +kernel)) (wA_of (List.mem_append_left _ (List.mem_map.mpr ⟨(⟨"YearRopeModel", "factOf", "(III)I"⟩, 20), wp6 (List.mem_of_getElem? (i := 5) (by decide +kernel)), rfl⟩)) (by decide +kernel)) (wA_t (wt1 (List.mem_of_getElem? (i := 12) (by decide +kernel))) (by decide +kernel)) (wA_t (wt8 (List.mem_of_getElem? (i := 52) (by decide +kernel))) (by decide +kernel)) ⟨rfl, by decide +kernel, by decide +kernel, by decide +kernel⟩
def rm_X11_holdsLine : Room := { frames := 5, cells := 0, slots := 0, locals := 110 }
def k_X11_holdsLine_256 (τ : gτ) (n : Nat) (x0 : Nat) (x2 : Int32) (x3 : Int32) (x4 : Int32) (x5 : Int32) (s0 : Nat) (s1 : Int32) (s2 : Int32) (G : gG) : Option ((Int32 × Int32 × gG) ⊕ ((Int32 × gG))) :=
  gchk (gIn s1 (gn τ s0)) <| gLet (gse G s0 (Int32.toNatClampNeg s1) s2) fun G17 =>
  gLet (x5 + 1) fun v18 =>
  some (.inl (x3, v18, G17))
def k_X11_holdsLine_222 (τ : gτ) (n : Nat) (x0 : Nat) (x2 : Int32) (x3 : Int32) (x4 : Int32) (x5 : Int32) (x6 : Int32) (x7 : Int32) (x8 : Int32) (s0 : Int32) (G : gG) : Option ((Int32 × Int32 × gG) ⊕ ((Int32 × gG))) :=
  (gr G 11 17 x0).bind fun a16 =>
  if x6 = (12 : Int32) then (k_X11_holdsLine_256 τ n x0 x2 x3 x4 x5 a16 (x3 - (1 : Int32)) (x7 + x8) G)
  else (if s0 = 0 then (k_X11_holdsLine_256 τ n x0 x2 x3 x4 x5 a16 (x3 - (1 : Int32)) (0 : Int32) G)
  else (k_X11_holdsLine_256 τ n x0 x2 x3 x4 x5 a16 (x3 - (1 : Int32)) (1 : Int32) G))
def b_X11_holdsLine_22 (τ : gτ) (n : Nat) (x0 : Nat) (x2 : Int32) (x3 : Int32) (x4 : Int32) (x5 : Int32) (G : gG) : Option ((Int32 × Int32 × gG) ⊕ ((Int32 × gG))) :=
  (gr G 11 1 x0).bind fun a4 =>
  gchk (gIn (x4 + (3 : Int32)) (gn τ a4)) <|
  if (ge G a4 (Int32.toNatClampNeg (x4 + (3 : Int32)))) ≤ x5 then (some (.inr (x3, G)))
  else ((gr G 11 1 x0).bind fun a5 =>
  gchk (gIn ((516 : Int32) + ((2 : Int32) * x5)) (gn τ a5)) <|
  gLet (ge G a5 (Int32.toNatClampNeg ((516 : Int32) + ((2 : Int32) * x5)))) fun v6 =>
  if (11 : Int32) < v6 then (if v6 = (15 : Int32) then ((gr G 11 17 x0).bind fun a7 =>
  (gr G 11 17 x0).bind fun a8 =>
  gchk (gIn (x3 - (1 : Int32)) (gn τ a8)) <|
  gchk (gIn (x3 - (1 : Int32)) (gn τ a7)) <| gLet (gse G a7 (Int32.toNatClampNeg (x3 - (1 : Int32))) ((1 : Int32) - (ge G a8 (Int32.toNatClampNeg (x3 - (1 : Int32)))))) fun G9 =>
  gLet (x5 + 1) fun v10 =>
  some (.inl (x3, v10, G9)))
  else (gLet (x3 + (-1)) fun v11 =>
  (gr G 11 17 x0).bind fun a12 =>
  gchk (gIn (v11 - (1 : Int32)) (gn τ a12)) <|
  gLet (ge G a12 (Int32.toNatClampNeg (v11 - (1 : Int32)))) fun v13 =>
  (gr G 11 17 x0).bind fun a14 =>
  gchk (gIn v11 (gn τ a14)) <|
  gLet (ge G a14 (Int32.toNatClampNeg v11)) fun v15 =>
  if v6 = (13 : Int32) then (if v15 ≤ v13 then (k_X11_holdsLine_222 τ n x0 x2 v11 x4 x5 v6 v13 v15 (0 : Int32) G)
  else (k_X11_holdsLine_222 τ n x0 x2 v11 x4 x5 v6 v13 v15 (1 : Int32) G))
  else (if v6 = (14 : Int32) then (if v13 ≤ v15 then (k_X11_holdsLine_222 τ n x0 x2 v11 x4 x5 v6 v13 v15 (0 : Int32) G)
  else (k_X11_holdsLine_222 τ n x0 x2 v11 x4 x5 v6 v13 v15 (1 : Int32) G))
  else (if v6 = (16 : Int32) then (if (v13 + v15) = (2 : Int32) then (k_X11_holdsLine_222 τ n x0 x2 v11 x4 x5 v6 v13 v15 (1 : Int32) G)
  else (k_X11_holdsLine_222 τ n x0 x2 v11 x4 x5 v6 v13 v15 (0 : Int32) G))
  else (if (v13 + v15) ≤ 0 then (k_X11_holdsLine_222 τ n x0 x2 v11 x4 x5 v6 v13 v15 (0 : Int32) G)
  else (k_X11_holdsLine_222 τ n x0 x2 v11 x4 x5 v6 v13 v15 (1 : Int32) G))))))
  else ((gr G 11 17 x0).bind fun a19 =>
  (gr G 11 1 x0).bind fun a20 =>
  gchk (gIn (((516 : Int32) + ((2 : Int32) * x5)) + (1 : Int32)) (gn τ a20)) <|
  (f_X11_factOf τ x0 v6 (ge G a20 (Int32.toNatClampNeg (((516 : Int32) + ((2 : Int32) * x5)) + (1 : Int32)))) x2 G).bind fun v21 =>
  gchk (gIn x3 (gn τ a19)) <| gLet (gse G a19 (Int32.toNatClampNeg x3) v21) fun G22 =>
  gLet (x3 + 1) fun v23 =>
  gLet (x5 + 1) fun v24 =>
  some (.inl (v23, v24, G22))))
def l_X11_holdsLine_22 (τ : gτ) (n : Nat) (x0 : Nat) (x2 : Int32) (x3 : Int32) (x4 : Int32) (x5 : Int32) (G : gG) : Option ((Int32 × gG)) :=
  gIter (fun (q : Int32 × Int32 × gG) => b_X11_holdsLine_22 τ n x0 x2 q.1 x4 q.2.1 q.2.2) n (x3, x5, G)
def k_X11_holdsLine_263 (τ : gτ) (n : Nat) (x0 : Nat) (x3 : Int32)  (G : gG) : Option (Int32 × gG) :=
  if x3 = 0 then (some (1, G))
  else ((gr G 11 17 x0).bind fun a27 =>
  gchk (gIn (0 : Int32) (gn τ a27)) <|
  if (ge G a27 (Int32.toNatClampNeg (0 : Int32))) = (1 : Int32) then (some (1, G))
  else (some (0, G)))
def f_X11_holdsLine (τ : gτ) (n : Nat) (x0 : Nat) (x1 : Int32) (x2 : Int32) (G : gG) : Option (Int32 × gG) :=
  gLet ((468 : Int32) + ((4 : Int32) * x1)) fun v1 =>
  (gr G 11 1 x0).bind fun a2 =>
  gchk (gIn (v1 + (2 : Int32)) (gn τ a2)) <|
  gLet (ge G a2 (Int32.toNatClampNeg (v1 + (2 : Int32)))) fun v3 =>
  (l_X11_holdsLine_22 τ n x0 x2 (0 : Int32) v1 v3 G).bind fun q => gLet q.1 fun z25 => gLet q.2 fun G26 => 
  k_X11_holdsLine_263 τ n x0 z25  G26
set_option maxHeartbeats 4000000 in
set_option maxRecDepth 100000 in
theorem w_X11_holdsLine_256 {X : gX} {τ : gτ} {p : Program} {l : Launch} {e : Env} {s : State} {m : MethodId} {args : Array Value} {below : List Frame} {meth : Method} {c : Code} (fx : gFx X p s m args meth c cX11_holdsLine 10 RX11) (n : Nat) (x0 : Nat) (x2 : Int32) (x3 : Int32) (x4 : Int32) (x5 : Int32) (s0 : Nat) (s1 : Int32) (s2 : Int32) (h0 : gK τ x0 11) (hs0 : gK τ s0 13) {Q : State → Prop} {K : ((Int32 × Int32 × gG) ⊕ ((Int32 × gG))) → Prop} {G : gG} {H : Heap} {locs : List Loc} {ls : Array Slot} (hw : gHw X τ G H locs) (hl : lv_has ls 10 [(0, .ref x0), (2, .int x2), (3, .int x3), (4, .int x4), (5, .int x5)]) (hok : gOk (k_X11_holdsLine_256 τ n x0 x2 x3 x4 x5 s0 s1 s2 G) K) (hc : ∀ (y3 : Int32) (y5 : Int32) (G : gG) (H : Heap) (locs : List Loc) (ls : Array Slot), gHw X τ G H locs → lv_has ls 10 [(0, .ref x0), (2, .int x2), (3, .int y3), (4, .int x4), (5, .int y5)] → K (.inl (y3, y5, G)) → W p l e rm_X11_holdsLine s m args below meth c H locs 0 0 Q (F0 m 22 ls [])) (hx0 : ∀ (y3 : Int32) (G : gG) (H : Heap) (locs : List Loc) (ls : Array Slot), gHw X τ G H locs → lv_has ls 10 [(0, .ref x0), (3, .int y3)] → K (.inr (y3, G)) → W p l e rm_X11_holdsLine s m args below meth c H locs 0 0 Q (F0 m 263 ls [])) : W p l e rm_X11_holdsLine s m args below meth c H locs 0 0 Q (F0 m 256 ls [.int s2, .int s1, .ref s0]) := by
  unfold k_X11_holdsLine_256 at hok
  refine g_iast fx hw hs0 dX11_holdsLine_256 hok (fun G17 H locs hw hok => ?_)
  obtain ⟨v18, e_v18, hok⟩ := gOk_let hok
  refine lv_iinc (v := v18) (lv' := [(5, .int v18), (0, .ref x0), (2, .int x2), (3, .int x3), (4, .int x4)]) fx.1 fx.2.1 dX11_holdsLine_257 hl (k := 4) rfl (by rw [e_v18]; rfl) (by decide) rfl (fun ls hl => ?_)
  refine lv_goto (tgt := 22) fx.1 fx.2.1 dX11_holdsLine_260 (by decide) ?_
  exact hc x3 v18 G17 _ _ _  hw (lv_sub hl [1, 2, 3, 4, 0] rfl) (gOk_some hok)
set_option maxHeartbeats 4000000 in
set_option maxRecDepth 100000 in
theorem w_X11_holdsLine_222 {X : gX} {τ : gτ} {p : Program} {l : Launch} {e : Env} {s : State} {m : MethodId} {args : Array Value} {below : List Frame} {meth : Method} {c : Code} (fx : gFx X p s m args meth c cX11_holdsLine 10 RX11) (n : Nat) (x0 : Nat) (x2 : Int32) (x3 : Int32) (x4 : Int32) (x5 : Int32) (x6 : Int32) (x7 : Int32) (x8 : Int32) (s0 : Int32) (h0 : gK τ x0 11)  {Q : State → Prop} {K : ((Int32 × Int32 × gG) ⊕ ((Int32 × gG))) → Prop} {G : gG} {H : Heap} {locs : List Loc} {ls : Array Slot} (hw : gHw X τ G H locs) (hl : lv_has ls 10 [(0, .ref x0), (2, .int x2), (3, .int x3), (4, .int x4), (5, .int x5), (6, .int x6), (7, .int x7), (8, .int x8)]) (hok : gOk (k_X11_holdsLine_222 τ n x0 x2 x3 x4 x5 x6 x7 x8 s0 G) K) (hc : ∀ (y3 : Int32) (y5 : Int32) (G : gG) (H : Heap) (locs : List Loc) (ls : Array Slot), gHw X τ G H locs → lv_has ls 10 [(0, .ref x0), (2, .int x2), (3, .int y3), (4, .int x4), (5, .int y5)] → K (.inl (y3, y5, G)) → W p l e rm_X11_holdsLine s m args below meth c H locs 0 0 Q (F0 m 22 ls [])) (hx0 : ∀ (y3 : Int32) (G : gG) (H : Heap) (locs : List Loc) (ls : Array Slot), gHw X τ G H locs → lv_has ls 10 [(0, .ref x0), (3, .int y3)] → K (.inr (y3, G)) → W p l e rm_X11_holdsLine s m args below meth c H locs 0 0 Q (F0 m 263 ls [])) : W p l e rm_X11_holdsLine s m args below meth c H locs 0 0 Q (F0 m 222 ls [.int s0]) := by
  unfold k_X11_holdsLine_222 at hok
  refine lv_istore (lv' := [(9, .int s0), (0, .ref x0), (2, .int x2), (3, .int x3), (4, .int x4), (5, .int x5), (6, .int x6), (7, .int x7), (8, .int x8)]) fx.1 fx.2.1 dX11_holdsLine_222 hl (by decide) rfl (fun ls hl => ?_)
  refine lv_aload_n fx.1 fx.2.1 dX11_holdsLine_224 rfl (lv_at hl 1 rfl) ?_
  refine g_getr fx hw h0 lf_RX11_39 rfl dX11_holdsLine_225 hok (fun a16 h_a16 hok => ?_)
  refine lv_iload_n fx.1 fx.2.1 dX11_holdsLine_228 rfl (lv_at hl 3 rfl) ?_
  refine lv_iconst (v := 1) fx.1 fx.2.1 dX11_holdsLine_229 (by decide) ?_
  refine lv_isub fx.1 fx.2.1 dX11_holdsLine_230 ?_
  refine lv_iload fx.1 fx.2.1 dX11_holdsLine_231 (lv_at hl 6 rfl) ?_
  refine lv_bipush (v := 12) fx.1 fx.2.1 dX11_holdsLine_233 (by decide) ?_
  refine g_icmp_ne (tgt := 246) fx dX11_holdsLine_235 (by decide) hok (fun hok => ?_) (fun hok => ?_)
  · refine lv_iload fx.1 fx.2.1 dX11_holdsLine_238 (lv_at hl 7 rfl) ?_
    refine lv_iload fx.1 fx.2.1 dX11_holdsLine_240 (lv_at hl 8 rfl) ?_
    refine lv_iadd fx.1 fx.2.1 dX11_holdsLine_242 ?_
    refine lv_goto (tgt := 256) fx.1 fx.2.1 dX11_holdsLine_243 (by decide) ?_
    exact w_X11_holdsLine_256 fx n x0 x2 x3 x4 x5 a16 (x3 - (1 : Int32)) (x7 + x8) h0 h_a16 hw (lv_sub hl [1, 2, 3, 4, 5] rfl) hok hc hx0
  · refine lv_iload fx.1 fx.2.1 dX11_holdsLine_246 (lv_at hl 0 rfl) ?_
    refine g_if_eq (tgt := 255) fx dX11_holdsLine_248 (by decide) hok (fun hok => ?_) (fun hok => ?_)
    · refine lv_iconst (v := 0) fx.1 fx.2.1 dX11_holdsLine_255 (by decide) ?_
      exact w_X11_holdsLine_256 fx n x0 x2 x3 x4 x5 a16 (x3 - (1 : Int32)) (0 : Int32) h0 h_a16 hw (lv_sub hl [1, 2, 3, 4, 5] rfl) hok hc hx0
    · refine lv_iconst (v := 1) fx.1 fx.2.1 dX11_holdsLine_251 (by decide) ?_
      refine lv_goto (tgt := 256) fx.1 fx.2.1 dX11_holdsLine_252 (by decide) ?_
      exact w_X11_holdsLine_256 fx n x0 x2 x3 x4 x5 a16 (x3 - (1 : Int32)) (1 : Int32) h0 h_a16 hw (lv_sub hl [1, 2, 3, 4, 5] rfl) hok hc hx0
set_option maxHeartbeats 4000000 in
set_option maxRecDepth 100000 in
theorem w_b_X11_holdsLine_22 {X : gX} {τ : gτ} {p : Program} {l : Launch} {e : Env} {s : State} {m : MethodId} {args : Array Value} {below : List Frame} {meth : Method} {c : Code} (fx : gFx X p s m args meth c cX11_holdsLine 10 RX11) (n : Nat) (x0 : Nat) (x2 : Int32) (x3 : Int32) (x4 : Int32) (x5 : Int32) (h0 : gK τ x0 11) {Q : State → Prop} {K : ((Int32 × Int32 × gG) ⊕ ((Int32 × gG))) → Prop} {G : gG} {H : Heap} {locs : List Loc} {ls : Array Slot} (hw : gHw X τ G H locs) (hl : lv_has ls 10 [(0, .ref x0), (2, .int x2), (3, .int x3), (4, .int x4), (5, .int x5)]) (hok : gOk (b_X11_holdsLine_22 τ n x0 x2 x3 x4 x5 G) K) (hc : ∀ (y3 : Int32) (y5 : Int32) (G : gG) (H : Heap) (locs : List Loc) (ls : Array Slot), gHw X τ G H locs → lv_has ls 10 [(0, .ref x0), (2, .int x2), (3, .int y3), (4, .int x4), (5, .int y5)] → K (.inl (y3, y5, G)) → W p l e rm_X11_holdsLine s m args below meth c H locs 0 0 Q (F0 m 22 ls [])) (hx0 : ∀ (y3 : Int32) (G : gG) (H : Heap) (locs : List Loc) (ls : Array Slot), gHw X τ G H locs → lv_has ls 10 [(0, .ref x0), (3, .int y3)] → K (.inr (y3, G)) → W p l e rm_X11_holdsLine s m args below meth c H locs 0 0 Q (F0 m 263 ls [])) : W p l e rm_X11_holdsLine s m args below meth c H locs 0 0 Q (F0 m 22 ls []) := by
  unfold b_X11_holdsLine_22 at hok
  refine lv_iload fx.1 fx.2.1 dX11_holdsLine_22 (lv_at hl 4 rfl) ?_
  refine lv_aload_n fx.1 fx.2.1 dX11_holdsLine_24 rfl (lv_at hl 0 rfl) ?_
  refine g_getr fx hw h0 lf_RX11_13 rfl dX11_holdsLine_25 hok (fun a4 h_a4 hok => ?_)
  refine lv_iload fx.1 fx.2.1 dX11_holdsLine_28 (lv_at hl 3 rfl) ?_
  refine lv_iconst (v := 3) fx.1 fx.2.1 dX11_holdsLine_30 (by decide) ?_
  refine lv_iadd fx.1 fx.2.1 dX11_holdsLine_31 ?_
  refine g_iald fx hw h_a4 dX11_holdsLine_32 hok (fun hok => ?_)
  refine g_icmp_ge (tgt := 263) fx dX11_holdsLine_33 (by decide) hok (fun hok => ?_) (fun hok => ?_)
  · exact hx0 x3 G _ _ _  hw (lv_sub hl [0, 2] rfl) (gOk_some hok)
  · refine lv_aload_n fx.1 fx.2.1 dX11_holdsLine_36 rfl (lv_at hl 0 rfl) ?_
    refine g_getr fx hw h0 lf_RX11_13 rfl dX11_holdsLine_37 hok (fun a5 h_a5 hok => ?_)
    refine lv_sipush (v := 516) fx.1 fx.2.1 dX11_holdsLine_40 (by decide) ?_
    refine lv_iconst (v := 2) fx.1 fx.2.1 dX11_holdsLine_43 (by decide) ?_
    refine lv_iload fx.1 fx.2.1 dX11_holdsLine_44 (lv_at hl 4 rfl) ?_
    refine lv_imul fx.1 fx.2.1 dX11_holdsLine_46 ?_
    refine lv_iadd fx.1 fx.2.1 dX11_holdsLine_47 ?_
    refine g_iald fx hw h_a5 dX11_holdsLine_48 hok (fun hok => ?_)
    refine g_leti hok (fun v6 hok => ?_)
    refine lv_istore (lv' := [(6, .int v6), (0, .ref x0), (2, .int x2), (3, .int x3), (4, .int x4), (5, .int x5)]) fx.1 fx.2.1 dX11_holdsLine_49 hl (by decide) rfl (fun ls hl => ?_)
    refine lv_iload fx.1 fx.2.1 dX11_holdsLine_51 (lv_at hl 0 rfl) ?_
    refine lv_bipush (v := 11) fx.1 fx.2.1 dX11_holdsLine_53 (by decide) ?_
    refine g_icmp_gt (tgt := 92) fx dX11_holdsLine_55 (by decide) hok (fun hok => ?_) (fun hok => ?_)
    · refine lv_iload fx.1 fx.2.1 dX11_holdsLine_92 (lv_at hl 0 rfl) ?_
      refine lv_bipush (v := 15) fx.1 fx.2.1 dX11_holdsLine_94 (by decide) ?_
      refine g_icmp_ne (tgt := 120) fx dX11_holdsLine_96 (by decide) hok (fun hok => ?_) (fun hok => ?_)
      · refine lv_aload_n fx.1 fx.2.1 dX11_holdsLine_99 rfl (lv_at hl 1 rfl) ?_
        refine g_getr fx hw h0 lf_RX11_39 rfl dX11_holdsLine_100 hok (fun a7 h_a7 hok => ?_)
        refine lv_iload_n fx.1 fx.2.1 dX11_holdsLine_103 rfl (lv_at hl 3 rfl) ?_
        refine lv_iconst (v := 1) fx.1 fx.2.1 dX11_holdsLine_104 (by decide) ?_
        refine lv_isub fx.1 fx.2.1 dX11_holdsLine_105 ?_
        refine lv_iconst (v := 1) fx.1 fx.2.1 dX11_holdsLine_106 (by decide) ?_
        refine lv_aload_n fx.1 fx.2.1 dX11_holdsLine_107 rfl (lv_at hl 1 rfl) ?_
        refine g_getr fx hw h0 lf_RX11_39 rfl dX11_holdsLine_108 hok (fun a8 h_a8 hok => ?_)
        refine lv_iload_n fx.1 fx.2.1 dX11_holdsLine_111 rfl (lv_at hl 3 rfl) ?_
        refine lv_iconst (v := 1) fx.1 fx.2.1 dX11_holdsLine_112 (by decide) ?_
        refine lv_isub fx.1 fx.2.1 dX11_holdsLine_113 ?_
        refine g_iald fx hw h_a8 dX11_holdsLine_114 hok (fun hok => ?_)
        refine lv_isub fx.1 fx.2.1 dX11_holdsLine_115 ?_
        refine g_iast fx hw h_a7 dX11_holdsLine_116 hok (fun G9 H locs hw hok => ?_)
        refine lv_goto (tgt := 257) fx.1 fx.2.1 dX11_holdsLine_117 (by decide) ?_
        obtain ⟨v10, e_v10, hok⟩ := gOk_let hok
        refine lv_iinc (v := v10) (lv' := [(5, .int v10), (6, .int v6), (0, .ref x0), (2, .int x2), (3, .int x3), (4, .int x4)]) fx.1 fx.2.1 dX11_holdsLine_257 hl (k := 5) rfl (by rw [e_v10]; rfl) (by decide) rfl (fun ls hl => ?_)
        refine lv_goto (tgt := 22) fx.1 fx.2.1 dX11_holdsLine_260 (by decide) ?_
        exact hc x3 v10 G9 _ _ _  hw (lv_sub hl [2, 3, 4, 5, 0] rfl) (gOk_some hok)
      · obtain ⟨v11, e_v11, hok⟩ := gOk_let hok
        refine lv_iinc (v := v11) (lv' := [(3, .int v11), (6, .int v6), (0, .ref x0), (2, .int x2), (4, .int x4), (5, .int x5)]) fx.1 fx.2.1 dX11_holdsLine_120 hl (k := 3) rfl (by rw [e_v11]; rfl) (by decide) rfl (fun ls hl => ?_)
        refine lv_aload_n fx.1 fx.2.1 dX11_holdsLine_123 rfl (lv_at hl 2 rfl) ?_
        refine g_getr fx hw h0 lf_RX11_39 rfl dX11_holdsLine_124 hok (fun a12 h_a12 hok => ?_)
        refine lv_iload_n fx.1 fx.2.1 dX11_holdsLine_127 rfl (lv_at hl 0 rfl) ?_
        refine lv_iconst (v := 1) fx.1 fx.2.1 dX11_holdsLine_128 (by decide) ?_
        refine lv_isub fx.1 fx.2.1 dX11_holdsLine_129 ?_
        refine g_iald fx hw h_a12 dX11_holdsLine_130 hok (fun hok => ?_)
        refine g_leti hok (fun v13 hok => ?_)
        refine lv_istore (lv' := [(7, .int v13), (3, .int v11), (6, .int v6), (0, .ref x0), (2, .int x2), (4, .int x4), (5, .int x5)]) fx.1 fx.2.1 dX11_holdsLine_131 hl (by decide) rfl (fun ls hl => ?_)
        refine lv_aload_n fx.1 fx.2.1 dX11_holdsLine_133 rfl (lv_at hl 3 rfl) ?_
        refine g_getr fx hw h0 lf_RX11_39 rfl dX11_holdsLine_134 hok (fun a14 h_a14 hok => ?_)
        refine lv_iload_n fx.1 fx.2.1 dX11_holdsLine_137 rfl (lv_at hl 1 rfl) ?_
        refine g_iald fx hw h_a14 dX11_holdsLine_138 hok (fun hok => ?_)
        refine g_leti hok (fun v15 hok => ?_)
        refine lv_istore (lv' := [(8, .int v15), (7, .int v13), (3, .int v11), (6, .int v6), (0, .ref x0), (2, .int x2), (4, .int x4), (5, .int x5)]) fx.1 fx.2.1 dX11_holdsLine_139 hl (by decide) rfl (fun ls hl => ?_)
        refine lv_iload fx.1 fx.2.1 dX11_holdsLine_141 (lv_at hl 3 rfl) ?_
        refine lv_bipush (v := 13) fx.1 fx.2.1 dX11_holdsLine_143 (by decide) ?_
        refine g_icmp_ne (tgt := 163) fx dX11_holdsLine_145 (by decide) hok (fun hok => ?_) (fun hok => ?_)
        · refine lv_iload fx.1 fx.2.1 dX11_holdsLine_148 (lv_at hl 1 rfl) ?_
          refine lv_iload fx.1 fx.2.1 dX11_holdsLine_150 (lv_at hl 0 rfl) ?_
          refine g_icmp_ge (tgt := 159) fx dX11_holdsLine_152 (by decide) hok (fun hok => ?_) (fun hok => ?_)
          · refine lv_iconst (v := 0) fx.1 fx.2.1 dX11_holdsLine_159 (by decide) ?_
            refine lv_goto (tgt := 222) fx.1 fx.2.1 dX11_holdsLine_160 (by decide) ?_
            exact w_X11_holdsLine_222 fx n x0 x2 v11 x4 x5 v6 v13 v15 (0 : Int32) h0  hw (lv_sub hl [4, 5, 2, 6, 7, 3, 1, 0] rfl) hok hc hx0
          · refine lv_iconst (v := 1) fx.1 fx.2.1 dX11_holdsLine_155 (by decide) ?_
            refine lv_goto (tgt := 222) fx.1 fx.2.1 dX11_holdsLine_156 (by decide) ?_
            exact w_X11_holdsLine_222 fx n x0 x2 v11 x4 x5 v6 v13 v15 (1 : Int32) h0  hw (lv_sub hl [4, 5, 2, 6, 7, 3, 1, 0] rfl) hok hc hx0
        · refine lv_iload fx.1 fx.2.1 dX11_holdsLine_163 (lv_at hl 3 rfl) ?_
          refine lv_bipush (v := 14) fx.1 fx.2.1 dX11_holdsLine_165 (by decide) ?_
          refine g_icmp_ne (tgt := 185) fx dX11_holdsLine_167 (by decide) hok (fun hok => ?_) (fun hok => ?_)
          · refine lv_iload fx.1 fx.2.1 dX11_holdsLine_170 (lv_at hl 1 rfl) ?_
            refine lv_iload fx.1 fx.2.1 dX11_holdsLine_172 (lv_at hl 0 rfl) ?_
            refine g_icmp_le (tgt := 181) fx dX11_holdsLine_174 (by decide) hok (fun hok => ?_) (fun hok => ?_)
            · refine lv_iconst (v := 0) fx.1 fx.2.1 dX11_holdsLine_181 (by decide) ?_
              refine lv_goto (tgt := 222) fx.1 fx.2.1 dX11_holdsLine_182 (by decide) ?_
              exact w_X11_holdsLine_222 fx n x0 x2 v11 x4 x5 v6 v13 v15 (0 : Int32) h0  hw (lv_sub hl [4, 5, 2, 6, 7, 3, 1, 0] rfl) hok hc hx0
            · refine lv_iconst (v := 1) fx.1 fx.2.1 dX11_holdsLine_177 (by decide) ?_
              refine lv_goto (tgt := 222) fx.1 fx.2.1 dX11_holdsLine_178 (by decide) ?_
              exact w_X11_holdsLine_222 fx n x0 x2 v11 x4 x5 v6 v13 v15 (1 : Int32) h0  hw (lv_sub hl [4, 5, 2, 6, 7, 3, 1, 0] rfl) hok hc hx0
          · refine lv_iload fx.1 fx.2.1 dX11_holdsLine_185 (lv_at hl 3 rfl) ?_
            refine lv_bipush (v := 16) fx.1 fx.2.1 dX11_holdsLine_187 (by decide) ?_
            refine g_icmp_ne (tgt := 209) fx dX11_holdsLine_189 (by decide) hok (fun hok => ?_) (fun hok => ?_)
            · refine lv_iload fx.1 fx.2.1 dX11_holdsLine_192 (lv_at hl 1 rfl) ?_
              refine lv_iload fx.1 fx.2.1 dX11_holdsLine_194 (lv_at hl 0 rfl) ?_
              refine lv_iadd fx.1 fx.2.1 dX11_holdsLine_196 ?_
              refine lv_iconst (v := 2) fx.1 fx.2.1 dX11_holdsLine_197 (by decide) ?_
              refine g_icmp_ne (tgt := 205) fx dX11_holdsLine_198 (by decide) hok (fun hok => ?_) (fun hok => ?_)
              · refine lv_iconst (v := 1) fx.1 fx.2.1 dX11_holdsLine_201 (by decide) ?_
                refine lv_goto (tgt := 222) fx.1 fx.2.1 dX11_holdsLine_202 (by decide) ?_
                exact w_X11_holdsLine_222 fx n x0 x2 v11 x4 x5 v6 v13 v15 (1 : Int32) h0  hw (lv_sub hl [4, 5, 2, 6, 7, 3, 1, 0] rfl) hok hc hx0
              · refine lv_iconst (v := 0) fx.1 fx.2.1 dX11_holdsLine_205 (by decide) ?_
                refine lv_goto (tgt := 222) fx.1 fx.2.1 dX11_holdsLine_206 (by decide) ?_
                exact w_X11_holdsLine_222 fx n x0 x2 v11 x4 x5 v6 v13 v15 (0 : Int32) h0  hw (lv_sub hl [4, 5, 2, 6, 7, 3, 1, 0] rfl) hok hc hx0
            · refine lv_iload fx.1 fx.2.1 dX11_holdsLine_209 (lv_at hl 1 rfl) ?_
              refine lv_iload fx.1 fx.2.1 dX11_holdsLine_211 (lv_at hl 0 rfl) ?_
              refine lv_iadd fx.1 fx.2.1 dX11_holdsLine_213 ?_
              refine g_if_le (tgt := 221) fx dX11_holdsLine_214 (by decide) hok (fun hok => ?_) (fun hok => ?_)
              · refine lv_iconst (v := 0) fx.1 fx.2.1 dX11_holdsLine_221 (by decide) ?_
                exact w_X11_holdsLine_222 fx n x0 x2 v11 x4 x5 v6 v13 v15 (0 : Int32) h0  hw (lv_sub hl [4, 5, 2, 6, 7, 3, 1, 0] rfl) hok hc hx0
              · refine lv_iconst (v := 1) fx.1 fx.2.1 dX11_holdsLine_217 (by decide) ?_
                refine lv_goto (tgt := 222) fx.1 fx.2.1 dX11_holdsLine_218 (by decide) ?_
                exact w_X11_holdsLine_222 fx n x0 x2 v11 x4 x5 v6 v13 v15 (1 : Int32) h0  hw (lv_sub hl [4, 5, 2, 6, 7, 3, 1, 0] rfl) hok hc hx0
    · refine lv_aload_n fx.1 fx.2.1 dX11_holdsLine_58 rfl (lv_at hl 1 rfl) ?_
      refine g_getr fx hw h0 lf_RX11_39 rfl dX11_holdsLine_59 hok (fun a19 h_a19 hok => ?_)
      refine lv_iload_n fx.1 fx.2.1 dX11_holdsLine_62 rfl (lv_at hl 3 rfl) ?_
      refine lv_aload_n fx.1 fx.2.1 dX11_holdsLine_63 rfl (lv_at hl 1 rfl) ?_
      refine lv_iload fx.1 fx.2.1 dX11_holdsLine_64 (lv_at hl 0 rfl) ?_
      refine lv_aload_n fx.1 fx.2.1 dX11_holdsLine_66 rfl (lv_at hl 1 rfl) ?_
      refine g_getr fx hw h0 lf_RX11_13 rfl dX11_holdsLine_67 hok (fun a20 h_a20 hok => ?_)
      refine lv_sipush (v := 516) fx.1 fx.2.1 dX11_holdsLine_70 (by decide) ?_
      refine lv_iconst (v := 2) fx.1 fx.2.1 dX11_holdsLine_73 (by decide) ?_
      refine lv_iload fx.1 fx.2.1 dX11_holdsLine_74 (lv_at hl 5 rfl) ?_
      refine lv_imul fx.1 fx.2.1 dX11_holdsLine_76 ?_
      refine lv_iadd fx.1 fx.2.1 dX11_holdsLine_77 ?_
      refine lv_iconst (v := 1) fx.1 fx.2.1 dX11_holdsLine_78 (by decide) ?_
      refine lv_iadd fx.1 fx.2.1 dX11_holdsLine_79 ?_
      refine g_iald fx hw h_a20 dX11_holdsLine_80 hok (fun hok => ?_)
      refine lv_iload_n fx.1 fx.2.1 dX11_holdsLine_81 rfl (lv_at hl 2 rfl) ?_
      obtain ⟨v21, hf, hok⟩ := gOk_bind hok
      refine g_callV0 (κ := 11) fx hw (c_X11_factOf l X τ x0 v6 (ge G a20 (Int32.toNatClampNeg (((516 : Int32) + ((2 : Int32) * x5)) + (1 : Int32)))) x2 G h0 hf) lv_RX11_291 ⟨rfl, rfl⟩ rfl rfl h0 rfl hl.1 rfl ⟨Nat.le_of_ble_eq_true rfl, Nat.le_of_ble_eq_true rfl⟩ (Nat.le_of_ble_eq_true rfl) ⟨Nat.le_of_ble_eq_true rfl, Nat.le_of_ble_eq_true rfl⟩ dX11_holdsLine_82 (fun H locs hw => ?_)
      refine g_iast fx hw h_a19 dX11_holdsLine_85 hok (fun G22 H locs hw hok => ?_)
      obtain ⟨v23, e_v23, hok⟩ := gOk_let hok
      refine lv_iinc (v := v23) (lv' := [(3, .int v23), (6, .int v6), (0, .ref x0), (2, .int x2), (4, .int x4), (5, .int x5)]) fx.1 fx.2.1 dX11_holdsLine_86 hl (k := 3) rfl (by rw [e_v23]; rfl) (by decide) rfl (fun ls hl => ?_)
      refine lv_goto (tgt := 257) fx.1 fx.2.1 dX11_holdsLine_89 (by decide) ?_
      obtain ⟨v24, e_v24, hok⟩ := gOk_let hok
      refine lv_iinc (v := v24) (lv' := [(5, .int v24), (3, .int v23), (6, .int v6), (0, .ref x0), (2, .int x2), (4, .int x4)]) fx.1 fx.2.1 dX11_holdsLine_257 hl (k := 5) rfl (by rw [e_v24]; rfl) (by decide) rfl (fun ls hl => ?_)
      refine lv_goto (tgt := 22) fx.1 fx.2.1 dX11_holdsLine_260 (by decide) ?_
      exact hc v23 v24 G22 _ _ _  hw (lv_sub hl [3, 4, 1, 5, 0] rfl) (gOk_some hok)
theorem w_l_X11_holdsLine_22 {X : gX} {τ : gτ} {p : Program} {l : Launch} {e : Env} {s : State} {m : MethodId} {args : Array Value} {below : List Frame} {meth : Method} {c : Code} (fx : gFx X p s m args meth c cX11_holdsLine 10 RX11) (n : Nat) (x0 : Nat) (x2 : Int32) (x4 : Int32) (h0 : gK τ x0 11) {Q : State → Prop} {K : ((Int32 × gG)) → Prop} (hx0 : ∀ (y3 : Int32) (G : gG) (H : Heap) (locs : List Loc) (ls : Array Slot), gHw X τ G H locs → lv_has ls 10 [(0, .ref x0), (3, .int y3)] → K (y3, G) → W p l e rm_X11_holdsLine s m args below meth c H locs 0 0 Q (F0 m 263 ls [])) : ∀ (k : Nat) (x3 : Int32) (x5 : Int32) (G : gG) (H : Heap) (locs : List Loc) (ls : Array Slot), gHw X τ G H locs → lv_has ls 10 [(0, .ref x0), (2, .int x2), (3, .int x3), (4, .int x4), (5, .int x5)] → gOk (gIter (fun (q : Int32 × Int32 × gG) => b_X11_holdsLine_22 τ n x0 x2 q.1 x4 q.2.1 q.2.2) k (x3, x5, G)) K → W p l e rm_X11_holdsLine s m args below meth c H locs 0 0 Q (F0 m 22 ls []) := by
  intro k
  induction k with
  | zero =>
    intro x3 x5 G H locs ls hw hl hok
    exact gOk_iter0 hok
  | succ k hc =>
    intro x3 x5 G H locs ls hw hl hok
    exact w_b_X11_holdsLine_22 fx n x0 x2 x3 x4 x5 h0 hw hl (gOk_iter hok) hc hx0
set_option maxHeartbeats 4000000 in
set_option maxRecDepth 100000 in
theorem w_X11_holdsLine_263 {X : gX} {τ : gτ} {p : Program} {l : Launch} {e : Env} {s : State} {m : MethodId} {args : Array Value} {below : List Frame} {meth : Method} {c : Code} (fx : gFx X p s m args meth c cX11_holdsLine 10 RX11) (n : Nat) (x0 : Nat) (x3 : Int32)  (h0 : gK τ x0 11)  (hr : meth.sig.returnType = (some .boolean)) {r : Int32} {G' : gG} {G : gG} {H : Heap} {locs : List Loc} {ls : Array Slot} (hw : gHw X τ G H locs) (hl : lv_has ls 10 [(0, .ref x0), (3, .int x3)]) (hok : gOk (k_X11_holdsLine_263 τ n x0 x3  G) (fun q => q = (r, G')))  : W p l e rm_X11_holdsLine s m args below meth c H locs 0 0 (MQ below (gQ X τ (some (.int r)) G') args s 0 0 (gFree X)) (F0 m 263 ls []) := by
  unfold k_X11_holdsLine_263 at hok
  refine lv_iload_n fx.1 fx.2.1 dX11_holdsLine_263 rfl (lv_at hl 1 rfl) ?_
  refine g_if_eq (tgt := 277) fx dX11_holdsLine_264 (by decide) hok (fun hok => ?_) (fun hok => ?_)
  · refine lv_iconst (v := 1) fx.1 fx.2.1 dX11_holdsLine_277 (by decide) ?_
    refine lv_goto (tgt := 282) fx.1 fx.2.1 dX11_holdsLine_278 (by decide) ?_
    cases gOk_some hok
    exact g_zret fx hw hr (by decide) dX11_holdsLine_282
  · refine lv_aload_n fx.1 fx.2.1 dX11_holdsLine_267 rfl (lv_at hl 0 rfl) ?_
    refine g_getr fx hw h0 lf_RX11_39 rfl dX11_holdsLine_268 hok (fun a27 h_a27 hok => ?_)
    refine lv_iconst (v := 0) fx.1 fx.2.1 dX11_holdsLine_271 (by decide) ?_
    refine g_iald fx hw h_a27 dX11_holdsLine_272 hok (fun hok => ?_)
    refine lv_iconst (v := 1) fx.1 fx.2.1 dX11_holdsLine_273 (by decide) ?_
    refine g_icmp_ne (tgt := 281) fx dX11_holdsLine_274 (by decide) hok (fun hok => ?_) (fun hok => ?_)
    · refine lv_iconst (v := 1) fx.1 fx.2.1 dX11_holdsLine_277 (by decide) ?_
      refine lv_goto (tgt := 282) fx.1 fx.2.1 dX11_holdsLine_278 (by decide) ?_
      cases gOk_some hok
      exact g_zret fx hw hr (by decide) dX11_holdsLine_282
    · refine lv_iconst (v := 0) fx.1 fx.2.1 dX11_holdsLine_281 (by decide) ?_
      cases gOk_some hok
      exact g_zret fx hw hr (by decide) dX11_holdsLine_282
set_option maxHeartbeats 4000000 in
set_option maxRecDepth 100000 in
theorem c_X11_holdsLine (l : Launch) (X : gX) (τ : gτ) (n : Nat) (x0 : Nat) (x1 : Int32) (x2 : Int32) (G : gG) (h0 : gK τ x0 11) {r : Int32} {G' : gG} (h : f_X11_holdsLine τ n x0 x1 x2 G = some (r, G')) : gM l X τ yX11_holdsLine cX11_holdsLine 10 (some .boolean) rm_X11_holdsLine [.ref x0, .int x1, .int x2] G (some (.int r)) G' := by
  refine g_body (by decide +kernel) (Nat.le_of_ble_eq_true rfl) ?_
  intro p e s m args below meth c ls fx hr hw hl
  have fx : gFx X p s m args meth c cX11_holdsLine 10 RX11 := fx
  have hl : lv_has ls 10 [(0, .ref x0), (1, .int x1), (2, .int x2)] := hl
  have hok : gOk (f_X11_holdsLine τ n x0 x1 x2 G) (fun q => q = (r, G')) := ⟨_, h, rfl⟩
  unfold f_X11_holdsLine at hok
  show W p l e rm_X11_holdsLine s m args below meth c s.heap [] 0 0 (MQ below (gQ X τ (some (.int r)) G') args s 0 0 (gFree X)) _
  refine lv_iconst (v := 0) fx.1 fx.2.1 dX11_holdsLine_0 (by decide) ?_
  refine lv_istore_n (lv' := [(3, .int (0 : Int32)), (0, .ref x0), (1, .int x1), (2, .int x2)]) fx.1 fx.2.1 dX11_holdsLine_1 rfl hl (by decide) rfl (fun ls hl => ?_)
  refine lv_sipush (v := 468) fx.1 fx.2.1 dX11_holdsLine_2 (by decide) ?_
  refine lv_iconst (v := 4) fx.1 fx.2.1 dX11_holdsLine_5 (by decide) ?_
  refine lv_iload_n fx.1 fx.2.1 dX11_holdsLine_6 rfl (lv_at hl 2 rfl) ?_
  refine lv_imul fx.1 fx.2.1 dX11_holdsLine_7 ?_
  refine lv_iadd fx.1 fx.2.1 dX11_holdsLine_8 ?_
  refine g_leti hok (fun v1 hok => ?_)
  refine lv_istore (lv' := [(4, .int v1), (3, .int (0 : Int32)), (0, .ref x0), (1, .int x1), (2, .int x2)]) fx.1 fx.2.1 dX11_holdsLine_9 hl (by decide) rfl (fun ls hl => ?_)
  refine lv_aload_n fx.1 fx.2.1 dX11_holdsLine_11 rfl (lv_at hl 2 rfl) ?_
  refine g_getr fx hw h0 lf_RX11_13 rfl dX11_holdsLine_12 hok (fun a2 h_a2 hok => ?_)
  refine lv_iload fx.1 fx.2.1 dX11_holdsLine_15 (lv_at hl 0 rfl) ?_
  refine lv_iconst (v := 2) fx.1 fx.2.1 dX11_holdsLine_17 (by decide) ?_
  refine lv_iadd fx.1 fx.2.1 dX11_holdsLine_18 ?_
  refine g_iald fx hw h_a2 dX11_holdsLine_19 hok (fun hok => ?_)
  refine g_leti hok (fun v3 hok => ?_)
  refine lv_istore (lv' := [(5, .int v3), (4, .int v1), (3, .int (0 : Int32)), (0, .ref x0), (1, .int x1), (2, .int x2)]) fx.1 fx.2.1 dX11_holdsLine_20 hl (by decide) rfl (fun ls hl => ?_)
  refine w_l_X11_holdsLine_22 fx n x0 x2 v1 h0 ?_ n (0 : Int32) v3 G _ _ _  hw (lv_sub hl [3, 5, 2, 1, 0] rfl) (gOk_bindK hok)
  intro z25 G26 H locs ls hw hl hok
  have hok : gOk (ρ := Int32 × gG) (k_X11_holdsLine_263 τ n x0 z25  G26) _ := hok
  exact w_X11_holdsLine_263 fx n x0 z25  h0  hr hw (lv_sub hl [0, 1] rfl) hok
theorem dX11_sumOf_0 : decode cX11_sumOf 0 = .ok (.iconst 0, 1) := by decide +kernel
theorem dX11_sumOf_1 : decode cX11_sumOf 1 = .ok (.istore_n 3, 1) := by decide +kernel
theorem dX11_sumOf_2 : decode cX11_sumOf 2 = .ok (.iconst 0, 1) := by decide +kernel
theorem dX11_sumOf_3 : decode cX11_sumOf 3 = .ok (.istore 4, 2) := by decide +kernel
theorem dX11_sumOf_5 : decode cX11_sumOf 5 = .ok (.aload_n 0, 1) := by decide +kernel
theorem dX11_sumOf_6 : decode cX11_sumOf 6 = .ok (.getfield 13, 3) := by decide +kernel
theorem dX11_sumOf_9 : decode cX11_sumOf 9 = .ok (.iconst 4, 1) := by decide +kernel
theorem dX11_sumOf_10 : decode cX11_sumOf 10 = .ok (.iaload, 1) := by decide +kernel
theorem dX11_sumOf_11 : decode cX11_sumOf 11 = .ok (.iconst 1, 1) := by decide +kernel
theorem dX11_sumOf_12 : decode cX11_sumOf 12 = .ok (.if_icmp .ne 67, 3) := by decide +kernel
theorem dX11_sumOf_15 : decode cX11_sumOf 15 = .ok (.iload 4, 2) := by decide +kernel
theorem dX11_sumOf_17 : decode cX11_sumOf 17 = .ok (.aload_n 0, 1) := by decide +kernel
theorem dX11_sumOf_18 : decode cX11_sumOf 18 = .ok (.getfield 13, 3) := by decide +kernel
theorem dX11_sumOf_21 : decode cX11_sumOf 21 = .ok (.sipush 467, 3) := by decide +kernel
theorem dX11_sumOf_24 : decode cX11_sumOf 24 = .ok (.iaload, 1) := by decide +kernel
theorem dX11_sumOf_25 : decode cX11_sumOf 25 = .ok (.if_icmp .ge 54, 3) := by decide +kernel
theorem dX11_sumOf_28 : decode cX11_sumOf 28 = .ok (.aload_n 0, 1) := by decide +kernel
theorem dX11_sumOf_29 : decode cX11_sumOf 29 = .ok (.getfield 13, 3) := by decide +kernel
theorem dX11_sumOf_32 : decode cX11_sumOf 32 = .ok (.sipush 468, 3) := by decide +kernel
theorem dX11_sumOf_35 : decode cX11_sumOf 35 = .ok (.iconst 4, 1) := by decide +kernel
theorem dX11_sumOf_36 : decode cX11_sumOf 36 = .ok (.iload 4, 2) := by decide +kernel
theorem dX11_sumOf_38 : decode cX11_sumOf 38 = .ok (.imul, 1) := by decide +kernel
theorem dX11_sumOf_39 : decode cX11_sumOf 39 = .ok (.iadd, 1) := by decide +kernel
theorem dX11_sumOf_40 : decode cX11_sumOf 40 = .ok (.iaload, 1) := by decide +kernel
theorem dX11_sumOf_41 : decode cX11_sumOf 41 = .ok (.iload_n 1, 1) := by decide +kernel
theorem dX11_sumOf_42 : decode cX11_sumOf 42 = .ok (.if_icmp .ne 31, 3) := by decide +kernel
theorem dX11_sumOf_45 : decode cX11_sumOf 45 = .ok (.aload_n 0, 1) := by decide +kernel
theorem dX11_sumOf_46 : decode cX11_sumOf 46 = .ok (.iload 4, 2) := by decide +kernel
theorem dX11_sumOf_48 : decode cX11_sumOf 48 = .ok (.iload_n 2, 1) := by decide +kernel
theorem dX11_sumOf_49 : decode cX11_sumOf 49 = .ok (.invokevirtual 294, 3) := by decide +kernel
theorem dX11_sumOf_52 : decode cX11_sumOf 52 = .ok (.ifCond .eq 21, 3) := by decide +kernel
theorem dX11_sumOf_55 : decode cX11_sumOf 55 = .ok (.iload_n 3, 1) := by decide +kernel
theorem dX11_sumOf_56 : decode cX11_sumOf 56 = .ok (.aload_n 0, 1) := by decide +kernel
theorem dX11_sumOf_57 : decode cX11_sumOf 57 = .ok (.getfield 13, 3) := by decide +kernel
theorem dX11_sumOf_60 : decode cX11_sumOf 60 = .ok (.sipush 468, 3) := by decide +kernel
theorem dX11_sumOf_63 : decode cX11_sumOf 63 = .ok (.iconst 4, 1) := by decide +kernel
theorem dX11_sumOf_64 : decode cX11_sumOf 64 = .ok (.iload 4, 2) := by decide +kernel
theorem dX11_sumOf_66 : decode cX11_sumOf 66 = .ok (.imul, 1) := by decide +kernel
theorem dX11_sumOf_67 : decode cX11_sumOf 67 = .ok (.iadd, 1) := by decide +kernel
theorem dX11_sumOf_68 : decode cX11_sumOf 68 = .ok (.iconst 1, 1) := by decide +kernel
theorem dX11_sumOf_69 : decode cX11_sumOf 69 = .ok (.iadd, 1) := by decide +kernel
theorem dX11_sumOf_70 : decode cX11_sumOf 70 = .ok (.iaload, 1) := by decide +kernel
theorem dX11_sumOf_71 : decode cX11_sumOf 71 = .ok (.iadd, 1) := by decide +kernel
theorem dX11_sumOf_72 : decode cX11_sumOf 72 = .ok (.istore_n 3, 1) := by decide +kernel
theorem dX11_sumOf_73 : decode cX11_sumOf 73 = .ok (.iinc 4 1, 3) := by decide +kernel
theorem dX11_sumOf_76 : decode cX11_sumOf 76 = .ok (.goto (-71), 3) := by decide +kernel
theorem dX11_sumOf_79 : decode cX11_sumOf 79 = .ok (.iload_n 3, 1) := by decide +kernel
theorem dX11_sumOf_80 : decode cX11_sumOf 80 = .ok (.ireturn, 1) := by decide +kernel
theorem lv_RX11_294 : gLv RX11 294 RX11 yX11_holdsLine cX11_holdsLine 10 (some .boolean) 2 := gLv_of (wA_t (wt8 (List.mem_of_getElem? (i := 45) (by decide +kernel))) (by decide +kernel)) (wA_t (wt8 (List.mem_of_getElem? (i := 47) (by decide +kernel))) (by decide +kernel)) (wA_of (List.mem_append_left _ (List.mem_map.mpr ⟨(⟨"YearRopeModel", "holdsLine", "(II)Z"⟩, 20), wp6 (List.mem_of_getElem? (i := 4) (by decide +kernel)), rfl⟩)) (by decide +kernel)) (wA_t (wt1 (List.mem_of_getElem? (i := 12) (by decide +kernel))) (by decide +kernel)) (wA_t (wt8 (List.mem_of_getElem? (i := 48) (by decide +kernel))) (by decide +kernel)) ⟨rfl, by decide +kernel, by decide +kernel, by decide +kernel⟩
def rm_X11_sumOf : Room := { frames := 6, cells := 0, slots := 0, locals := 139 }
def b_X11_sumOf_5 (τ : gτ) (n : Nat) (x0 : Nat) (x1 : Int32) (x2 : Int32) (x3 : Int32) (x4 : Int32) (G : gG) : Option ((Int32 × Int32 × gG) ⊕ ((Int32 × gG))) :=
  (gr G 11 1 x0).bind fun a1 =>
  gchk (gIn (4 : Int32) (gn τ a1)) <|
  if (ge G a1 (Int32.toNatClampNeg (4 : Int32))) = (1 : Int32) then ((gr G 11 1 x0).bind fun a2 =>
  gchk (gIn (467 : Int32) (gn τ a2)) <|
  if (ge G a2 (Int32.toNatClampNeg (467 : Int32))) ≤ x4 then (some (.inr (x3, G)))
  else ((gr G 11 1 x0).bind fun a3 =>
  gchk (gIn ((468 : Int32) + ((4 : Int32) * x4)) (gn τ a3)) <|
  if (ge G a3 (Int32.toNatClampNeg ((468 : Int32) + ((4 : Int32) * x4)))) = x1 then (gBind2 (f_X11_holdsLine τ n x0 x4 x2 G) fun v4 G5 =>
  if v4 = 0 then (gLet (x4 + 1) fun v6 =>
  some (.inl (x3, v6, G5)))
  else ((gr G5 11 1 x0).bind fun a7 =>
  gchk (gIn (((468 : Int32) + ((4 : Int32) * x4)) + (1 : Int32)) (gn τ a7)) <|
  gLet (x3 + (ge G5 a7 (Int32.toNatClampNeg (((468 : Int32) + ((4 : Int32) * x4)) + (1 : Int32))))) fun v8 =>
  gLet (x4 + 1) fun v9 =>
  some (.inl (v8, v9, G5))))
  else (gLet (x4 + 1) fun v10 =>
  some (.inl (x3, v10, G)))))
  else (some (.inr (x3, G)))
def l_X11_sumOf_5 (τ : gτ) (n : Nat) (x0 : Nat) (x1 : Int32) (x2 : Int32) (x3 : Int32) (x4 : Int32) (G : gG) : Option ((Int32 × gG)) :=
  gIter (fun (q : Int32 × Int32 × gG) => b_X11_sumOf_5 τ n x0 x1 x2 q.1 q.2.1 q.2.2) n (x3, x4, G)
def f_X11_sumOf (τ : gτ) (n : Nat) (x0 : Nat) (x1 : Int32) (x2 : Int32) (G : gG) : Option (Int32 × gG) :=
  (l_X11_sumOf_5 τ n x0 x1 x2 (0 : Int32) (0 : Int32) G).bind fun q => gLet q.1 fun z11 => gLet q.2 fun G12 => 
  some (z11, G12)
set_option maxHeartbeats 4000000 in
set_option maxRecDepth 100000 in
theorem w_b_X11_sumOf_5 {X : gX} {τ : gτ} {p : Program} {l : Launch} {e : Env} {s : State} {m : MethodId} {args : Array Value} {below : List Frame} {meth : Method} {c : Code} (fx : gFx X p s m args meth c cX11_sumOf 5 RX11) (n : Nat) (x0 : Nat) (x1 : Int32) (x2 : Int32) (x3 : Int32) (x4 : Int32) (h0 : gK τ x0 11) {Q : State → Prop} {K : ((Int32 × Int32 × gG) ⊕ ((Int32 × gG))) → Prop} {G : gG} {H : Heap} {locs : List Loc} {ls : Array Slot} (hw : gHw X τ G H locs) (hl : lv_has ls 5 [(0, .ref x0), (1, .int x1), (2, .int x2), (3, .int x3), (4, .int x4)]) (hok : gOk (b_X11_sumOf_5 τ n x0 x1 x2 x3 x4 G) K) (hc : ∀ (y3 : Int32) (y4 : Int32) (G : gG) (H : Heap) (locs : List Loc) (ls : Array Slot), gHw X τ G H locs → lv_has ls 5 [(0, .ref x0), (1, .int x1), (2, .int x2), (3, .int y3), (4, .int y4)] → K (.inl (y3, y4, G)) → W p l e rm_X11_sumOf s m args below meth c H locs 0 0 Q (F0 m 5 ls [])) (hx0 : ∀ (y3 : Int32) (G : gG) (H : Heap) (locs : List Loc) (ls : Array Slot), gHw X τ G H locs → lv_has ls 5 [(3, .int y3)] → K (.inr (y3, G)) → W p l e rm_X11_sumOf s m args below meth c H locs 0 0 Q (F0 m 79 ls [])) : W p l e rm_X11_sumOf s m args below meth c H locs 0 0 Q (F0 m 5 ls []) := by
  unfold b_X11_sumOf_5 at hok
  refine lv_aload_n fx.1 fx.2.1 dX11_sumOf_5 rfl (lv_at hl 0 rfl) ?_
  refine g_getr fx hw h0 lf_RX11_13 rfl dX11_sumOf_6 hok (fun a1 h_a1 hok => ?_)
  refine lv_iconst (v := 4) fx.1 fx.2.1 dX11_sumOf_9 (by decide) ?_
  refine g_iald fx hw h_a1 dX11_sumOf_10 hok (fun hok => ?_)
  refine lv_iconst (v := 1) fx.1 fx.2.1 dX11_sumOf_11 (by decide) ?_
  refine g_icmp_ne (tgt := 79) fx dX11_sumOf_12 (by decide) hok (fun hok => ?_) (fun hok => ?_)
  · refine lv_iload fx.1 fx.2.1 dX11_sumOf_15 (lv_at hl 4 rfl) ?_
    refine lv_aload_n fx.1 fx.2.1 dX11_sumOf_17 rfl (lv_at hl 0 rfl) ?_
    refine g_getr fx hw h0 lf_RX11_13 rfl dX11_sumOf_18 hok (fun a2 h_a2 hok => ?_)
    refine lv_sipush (v := 467) fx.1 fx.2.1 dX11_sumOf_21 (by decide) ?_
    refine g_iald fx hw h_a2 dX11_sumOf_24 hok (fun hok => ?_)
    refine g_icmp_ge (tgt := 79) fx dX11_sumOf_25 (by decide) hok (fun hok => ?_) (fun hok => ?_)
    · exact hx0 x3 G _ _ _  hw (lv_sub hl [3] rfl) (gOk_some hok)
    · refine lv_aload_n fx.1 fx.2.1 dX11_sumOf_28 rfl (lv_at hl 0 rfl) ?_
      refine g_getr fx hw h0 lf_RX11_13 rfl dX11_sumOf_29 hok (fun a3 h_a3 hok => ?_)
      refine lv_sipush (v := 468) fx.1 fx.2.1 dX11_sumOf_32 (by decide) ?_
      refine lv_iconst (v := 4) fx.1 fx.2.1 dX11_sumOf_35 (by decide) ?_
      refine lv_iload fx.1 fx.2.1 dX11_sumOf_36 (lv_at hl 4 rfl) ?_
      refine lv_imul fx.1 fx.2.1 dX11_sumOf_38 ?_
      refine lv_iadd fx.1 fx.2.1 dX11_sumOf_39 ?_
      refine g_iald fx hw h_a3 dX11_sumOf_40 hok (fun hok => ?_)
      refine lv_iload_n fx.1 fx.2.1 dX11_sumOf_41 rfl (lv_at hl 1 rfl) ?_
      refine g_icmp_ne (tgt := 73) fx dX11_sumOf_42 (by decide) hok (fun hok => ?_) (fun hok => ?_)
      · refine lv_aload_n fx.1 fx.2.1 dX11_sumOf_45 rfl (lv_at hl 0 rfl) ?_
        refine lv_iload fx.1 fx.2.1 dX11_sumOf_46 (lv_at hl 4 rfl) ?_
        refine lv_iload_n fx.1 fx.2.1 dX11_sumOf_48 rfl (lv_at hl 2 rfl) ?_
        obtain ⟨v4, G5, hf, hok⟩ := gOk_bind2 hok
        refine g_callV0 (κ := 11) fx hw (c_X11_holdsLine l X τ n x0 x4 x2 G h0 hf) lv_RX11_294 ⟨rfl, rfl⟩ rfl rfl h0 rfl hl.1 rfl ⟨Nat.le_of_ble_eq_true rfl, Nat.le_of_ble_eq_true rfl⟩ (Nat.le_of_ble_eq_true rfl) ⟨Nat.le_of_ble_eq_true rfl, Nat.le_of_ble_eq_true rfl⟩ dX11_sumOf_49 (fun H locs hw => ?_)
        refine g_if_eq (tgt := 73) fx dX11_sumOf_52 (by decide) hok (fun hok => ?_) (fun hok => ?_)
        · obtain ⟨v6, e_v6, hok⟩ := gOk_let hok
          refine lv_iinc (v := v6) (lv' := [(4, .int v6), (0, .ref x0), (1, .int x1), (2, .int x2), (3, .int x3)]) fx.1 fx.2.1 dX11_sumOf_73 hl (k := 4) rfl (by rw [e_v6]; rfl) (by decide) rfl (fun ls hl => ?_)
          refine lv_goto (tgt := 5) fx.1 fx.2.1 dX11_sumOf_76 (by decide) ?_
          exact hc x3 v6 G5 _ _ _  hw (lv_sub hl [1, 2, 3, 4, 0] rfl) (gOk_some hok)
        · refine lv_iload_n fx.1 fx.2.1 dX11_sumOf_55 rfl (lv_at hl 3 rfl) ?_
          refine lv_aload_n fx.1 fx.2.1 dX11_sumOf_56 rfl (lv_at hl 0 rfl) ?_
          refine g_getr fx hw h0 lf_RX11_13 rfl dX11_sumOf_57 hok (fun a7 h_a7 hok => ?_)
          refine lv_sipush (v := 468) fx.1 fx.2.1 dX11_sumOf_60 (by decide) ?_
          refine lv_iconst (v := 4) fx.1 fx.2.1 dX11_sumOf_63 (by decide) ?_
          refine lv_iload fx.1 fx.2.1 dX11_sumOf_64 (lv_at hl 4 rfl) ?_
          refine lv_imul fx.1 fx.2.1 dX11_sumOf_66 ?_
          refine lv_iadd fx.1 fx.2.1 dX11_sumOf_67 ?_
          refine lv_iconst (v := 1) fx.1 fx.2.1 dX11_sumOf_68 (by decide) ?_
          refine lv_iadd fx.1 fx.2.1 dX11_sumOf_69 ?_
          refine g_iald fx hw h_a7 dX11_sumOf_70 hok (fun hok => ?_)
          refine lv_iadd fx.1 fx.2.1 dX11_sumOf_71 ?_
          refine g_leti hok (fun v8 hok => ?_)
          refine lv_istore_n (lv' := [(3, .int v8), (0, .ref x0), (1, .int x1), (2, .int x2), (4, .int x4)]) fx.1 fx.2.1 dX11_sumOf_72 rfl hl (by decide) rfl (fun ls hl => ?_)
          obtain ⟨v9, e_v9, hok⟩ := gOk_let hok
          refine lv_iinc (v := v9) (lv' := [(4, .int v9), (3, .int v8), (0, .ref x0), (1, .int x1), (2, .int x2)]) fx.1 fx.2.1 dX11_sumOf_73 hl (k := 4) rfl (by rw [e_v9]; rfl) (by decide) rfl (fun ls hl => ?_)
          refine lv_goto (tgt := 5) fx.1 fx.2.1 dX11_sumOf_76 (by decide) ?_
          exact hc v8 v9 G5 _ _ _  hw (lv_sub hl [2, 3, 4, 1, 0] rfl) (gOk_some hok)
      · obtain ⟨v10, e_v10, hok⟩ := gOk_let hok
        refine lv_iinc (v := v10) (lv' := [(4, .int v10), (0, .ref x0), (1, .int x1), (2, .int x2), (3, .int x3)]) fx.1 fx.2.1 dX11_sumOf_73 hl (k := 4) rfl (by rw [e_v10]; rfl) (by decide) rfl (fun ls hl => ?_)
        refine lv_goto (tgt := 5) fx.1 fx.2.1 dX11_sumOf_76 (by decide) ?_
        exact hc x3 v10 G _ _ _  hw (lv_sub hl [1, 2, 3, 4, 0] rfl) (gOk_some hok)
  · exact hx0 x3 G _ _ _  hw (lv_sub hl [3] rfl) (gOk_some hok)
theorem w_l_X11_sumOf_5 {X : gX} {τ : gτ} {p : Program} {l : Launch} {e : Env} {s : State} {m : MethodId} {args : Array Value} {below : List Frame} {meth : Method} {c : Code} (fx : gFx X p s m args meth c cX11_sumOf 5 RX11) (n : Nat) (x0 : Nat) (x1 : Int32) (x2 : Int32) (h0 : gK τ x0 11) {Q : State → Prop} {K : ((Int32 × gG)) → Prop} (hx0 : ∀ (y3 : Int32) (G : gG) (H : Heap) (locs : List Loc) (ls : Array Slot), gHw X τ G H locs → lv_has ls 5 [(3, .int y3)] → K (y3, G) → W p l e rm_X11_sumOf s m args below meth c H locs 0 0 Q (F0 m 79 ls [])) : ∀ (k : Nat) (x3 : Int32) (x4 : Int32) (G : gG) (H : Heap) (locs : List Loc) (ls : Array Slot), gHw X τ G H locs → lv_has ls 5 [(0, .ref x0), (1, .int x1), (2, .int x2), (3, .int x3), (4, .int x4)] → gOk (gIter (fun (q : Int32 × Int32 × gG) => b_X11_sumOf_5 τ n x0 x1 x2 q.1 q.2.1 q.2.2) k (x3, x4, G)) K → W p l e rm_X11_sumOf s m args below meth c H locs 0 0 Q (F0 m 5 ls []) := by
  intro k
  induction k with
  | zero =>
    intro x3 x4 G H locs ls hw hl hok
    exact gOk_iter0 hok
  | succ k hc =>
    intro x3 x4 G H locs ls hw hl hok
    exact w_b_X11_sumOf_5 fx n x0 x1 x2 x3 x4 h0 hw hl (gOk_iter hok) hc hx0
set_option maxHeartbeats 4000000 in
set_option maxRecDepth 100000 in
theorem c_X11_sumOf (l : Launch) (X : gX) (τ : gτ) (n : Nat) (x0 : Nat) (x1 : Int32) (x2 : Int32) (G : gG) (h0 : gK τ x0 11) {r : Int32} {G' : gG} (h : f_X11_sumOf τ n x0 x1 x2 G = some (r, G')) : gM l X τ yX11_sumOf cX11_sumOf 5 (some .int) rm_X11_sumOf [.ref x0, .int x1, .int x2] G (some (.int r)) G' := by
  refine g_body (by decide +kernel) (Nat.le_of_ble_eq_true rfl) ?_
  intro p e s m args below meth c ls fx hr hw hl
  have fx : gFx X p s m args meth c cX11_sumOf 5 RX11 := fx
  have hl : lv_has ls 5 [(0, .ref x0), (1, .int x1), (2, .int x2)] := hl
  have hok : gOk (f_X11_sumOf τ n x0 x1 x2 G) (fun q => q = (r, G')) := ⟨_, h, rfl⟩
  unfold f_X11_sumOf at hok
  show W p l e rm_X11_sumOf s m args below meth c s.heap [] 0 0 (MQ below (gQ X τ (some (.int r)) G') args s 0 0 (gFree X)) _
  refine lv_iconst (v := 0) fx.1 fx.2.1 dX11_sumOf_0 (by decide) ?_
  refine lv_istore_n (lv' := [(3, .int (0 : Int32)), (0, .ref x0), (1, .int x1), (2, .int x2)]) fx.1 fx.2.1 dX11_sumOf_1 rfl hl (by decide) rfl (fun ls hl => ?_)
  refine lv_iconst (v := 0) fx.1 fx.2.1 dX11_sumOf_2 (by decide) ?_
  refine lv_istore (lv' := [(4, .int (0 : Int32)), (3, .int (0 : Int32)), (0, .ref x0), (1, .int x1), (2, .int x2)]) fx.1 fx.2.1 dX11_sumOf_3 hl (by decide) rfl (fun ls hl => ?_)
  refine w_l_X11_sumOf_5 fx n x0 x1 x2 h0 ?_ n (0 : Int32) (0 : Int32) G _ _ _  hw (lv_sub hl [2, 3, 4, 1, 0] rfl) (gOk_bindK hok)
  intro z11 G12 H locs ls hw hl hok
  have hok : gOk (ρ := Int32 × gG) (some (z11, G12)) _ := hok
  refine lv_iload_n fx.1 fx.2.1 dX11_sumOf_79 rfl (lv_at hl 0 rfl) ?_
  cases gOk_some hok
  exact g_iret fx hw hr dX11_sumOf_80
theorem dX11_soundOf_0 : decode cX11_soundOf 0 = .ok (.iconst 0, 1) := by decide +kernel
theorem dX11_soundOf_1 : decode cX11_soundOf 1 = .ok (.aload_n 0, 1) := by decide +kernel
theorem dX11_soundOf_2 : decode cX11_soundOf 2 = .ok (.iload_n 1, 1) := by decide +kernel
theorem dX11_soundOf_3 : decode cX11_soundOf 3 = .ok (.iconst 0, 1) := by decide +kernel
theorem dX11_soundOf_4 : decode cX11_soundOf 4 = .ok (.invokevirtual 132, 3) := by decide +kernel
theorem dX11_soundOf_7 : decode cX11_soundOf 7 = .ok (.aload_n 0, 1) := by decide +kernel
theorem dX11_soundOf_8 : decode cX11_soundOf 8 = .ok (.iload_n 1, 1) := by decide +kernel
theorem dX11_soundOf_9 : decode cX11_soundOf 9 = .ok (.iconst 2, 1) := by decide +kernel
theorem dX11_soundOf_10 : decode cX11_soundOf 10 = .ok (.invokevirtual 132, 3) := by decide +kernel
theorem dX11_soundOf_13 : decode cX11_soundOf 13 = .ok (.isub, 1) := by decide +kernel
theorem dX11_soundOf_14 : decode cX11_soundOf 14 = .ok (.invokestatic 270, 3) := by decide +kernel
theorem dX11_soundOf_17 : decode cX11_soundOf 17 = .ok (.ireturn, 1) := by decide +kernel
def rm_X11_soundOf : Room := { frames := 2, cells := 0, slots := 0, locals := 43 }
def f_X11_soundOf (τ : gτ) (x0 : Nat) (x1 : Int32) (G : gG) : Option (Int32) :=
  (f_X11_ofYarn τ x0 x1 (0 : Int32) G).bind fun v1 =>
  (f_X11_ofYarn τ x0 x1 (2 : Int32) G).bind fun v2 =>
  some (gmax (0 : Int32) (v1 - v2))
set_option maxHeartbeats 4000000 in
set_option maxRecDepth 100000 in
theorem c_X11_soundOf (l : Launch) (X : gX) (τ : gτ) (x0 : Nat) (x1 : Int32) (G : gG) (h0 : gK τ x0 11) {r : Int32}  (h : f_X11_soundOf τ x0 x1 G = some r) : gM l X τ yX11_soundOf cX11_soundOf 2 (some .int) rm_X11_soundOf [.ref x0, .int x1] G (some (.int r)) G := by
  refine g_body (by decide +kernel) (Nat.le_of_ble_eq_true rfl) ?_
  intro p e s m args below meth c ls fx hr hw hl
  have fx : gFx X p s m args meth c cX11_soundOf 2 RX11 := fx
  have hl : lv_has ls 2 [(0, .ref x0), (1, .int x1)] := hl
  have hok : gOk (f_X11_soundOf τ x0 x1 G) (fun q => q = r) := ⟨_, h, rfl⟩
  unfold f_X11_soundOf at hok
  show W p l e rm_X11_soundOf s m args below meth c s.heap [] 0 0 (MQ below (gQ X τ (some (.int r)) G) args s 0 0 (gFree X)) _
  refine lv_iconst (v := 0) fx.1 fx.2.1 dX11_soundOf_0 (by decide) ?_
  refine lv_aload_n fx.1 fx.2.1 dX11_soundOf_1 rfl (lv_at hl 0 rfl) ?_
  refine lv_iload_n fx.1 fx.2.1 dX11_soundOf_2 rfl (lv_at hl 1 rfl) ?_
  refine lv_iconst (v := 0) fx.1 fx.2.1 dX11_soundOf_3 (by decide) ?_
  obtain ⟨v1, hf, hok⟩ := gOk_bind hok
  refine g_callV0 (κ := 11) fx hw (c_X11_ofYarn l X τ x0 x1 (0 : Int32) G h0 hf) lv_RX11_132 ⟨rfl, rfl⟩ rfl rfl h0 rfl hl.1 rfl ⟨Nat.le_of_ble_eq_true rfl, Nat.le_of_ble_eq_true rfl⟩ (Nat.le_of_ble_eq_true rfl) ⟨Nat.le_of_ble_eq_true rfl, Nat.le_of_ble_eq_true rfl⟩ dX11_soundOf_4 (fun H locs hw => ?_)
  refine lv_aload_n fx.1 fx.2.1 dX11_soundOf_7 rfl (lv_at hl 0 rfl) ?_
  refine lv_iload_n fx.1 fx.2.1 dX11_soundOf_8 rfl (lv_at hl 1 rfl) ?_
  refine lv_iconst (v := 2) fx.1 fx.2.1 dX11_soundOf_9 (by decide) ?_
  obtain ⟨v2, hf, hok⟩ := gOk_bind hok
  refine g_callV0 (κ := 11) fx hw (c_X11_ofYarn l X τ x0 x1 (2 : Int32) G h0 hf) lv_RX11_132 ⟨rfl, rfl⟩ rfl rfl h0 rfl hl.1 rfl ⟨Nat.le_of_ble_eq_true rfl, Nat.le_of_ble_eq_true rfl⟩ (Nat.le_of_ble_eq_true rfl) ⟨Nat.le_of_ble_eq_true rfl, Nat.le_of_ble_eq_true rfl⟩ dX11_soundOf_10 (fun H locs hw => ?_)
  refine lv_isub fx.1 fx.2.1 dX11_soundOf_13 ?_
  refine g_mmax fx hl.1 lm_RX11_270 lmst_max lm_init lmco_max ⟨Nat.le_of_ble_eq_true rfl, Nat.le_of_ble_eq_true rfl, Nat.le_of_ble_eq_true rfl, Nat.le_of_ble_eq_true rfl⟩ dX11_soundOf_14 ?_
  cases gOk_some hok
  exact g_iret fx hw hr dX11_soundOf_17
theorem dX11_bearsOf_0 : decode cX11_bearsOf 0 = .ok (.aload_n 0, 1) := by decide +kernel
theorem dX11_bearsOf_1 : decode cX11_bearsOf 1 = .ok (.iload_n 1, 1) := by decide +kernel
theorem dX11_bearsOf_2 : decode cX11_bearsOf 2 = .ok (.invokevirtual 146, 3) := by decide +kernel
theorem dX11_bearsOf_5 : decode cX11_bearsOf 5 = .ok (.ifCond .ne 5, 3) := by decide +kernel
theorem dX11_bearsOf_8 : decode cX11_bearsOf 8 = .ok (.iconst 0, 1) := by decide +kernel
theorem dX11_bearsOf_9 : decode cX11_bearsOf 9 = .ok (.ireturn, 1) := by decide +kernel
theorem dX11_bearsOf_10 : decode cX11_bearsOf 10 = .ok (.aload_n 0, 1) := by decide +kernel
theorem dX11_bearsOf_11 : decode cX11_bearsOf 11 = .ok (.aload_n 0, 1) := by decide +kernel
theorem dX11_bearsOf_12 : decode cX11_bearsOf 12 = .ok (.iload_n 1, 1) := by decide +kernel
theorem dX11_bearsOf_13 : decode cX11_bearsOf 13 = .ok (.iconst 0, 1) := by decide +kernel
theorem dX11_bearsOf_14 : decode cX11_bearsOf 14 = .ok (.invokevirtual 62, 3) := by decide +kernel
theorem dX11_bearsOf_17 : decode cX11_bearsOf 17 = .ok (.invokevirtual 297, 3) := by decide +kernel
theorem dX11_bearsOf_20 : decode cX11_bearsOf 20 = .ok (.aload_n 0, 1) := by decide +kernel
theorem dX11_bearsOf_21 : decode cX11_bearsOf 21 = .ok (.aload_n 0, 1) := by decide +kernel
theorem dX11_bearsOf_22 : decode cX11_bearsOf 22 = .ok (.iload_n 1, 1) := by decide +kernel
theorem dX11_bearsOf_23 : decode cX11_bearsOf 23 = .ok (.iconst 1, 1) := by decide +kernel
theorem dX11_bearsOf_24 : decode cX11_bearsOf 24 = .ok (.invokevirtual 62, 3) := by decide +kernel
theorem dX11_bearsOf_27 : decode cX11_bearsOf 27 = .ok (.invokevirtual 297, 3) := by decide +kernel
theorem dX11_bearsOf_30 : decode cX11_bearsOf 30 = .ok (.iadd, 1) := by decide +kernel
theorem dX11_bearsOf_31 : decode cX11_bearsOf 31 = .ok (.aload_n 0, 1) := by decide +kernel
theorem dX11_bearsOf_32 : decode cX11_bearsOf 32 = .ok (.aload_n 0, 1) := by decide +kernel
theorem dX11_bearsOf_33 : decode cX11_bearsOf 33 = .ok (.iload_n 1, 1) := by decide +kernel
theorem dX11_bearsOf_34 : decode cX11_bearsOf 34 = .ok (.iconst 2, 1) := by decide +kernel
theorem dX11_bearsOf_35 : decode cX11_bearsOf 35 = .ok (.invokevirtual 62, 3) := by decide +kernel
theorem dX11_bearsOf_38 : decode cX11_bearsOf 38 = .ok (.invokevirtual 297, 3) := by decide +kernel
theorem dX11_bearsOf_41 : decode cX11_bearsOf 41 = .ok (.iadd, 1) := by decide +kernel
theorem dX11_bearsOf_42 : decode cX11_bearsOf 42 = .ok (.aload_n 0, 1) := by decide +kernel
theorem dX11_bearsOf_43 : decode cX11_bearsOf 43 = .ok (.iconst 1, 1) := by decide +kernel
theorem dX11_bearsOf_44 : decode cX11_bearsOf 44 = .ok (.iload_n 1, 1) := by decide +kernel
theorem dX11_bearsOf_45 : decode cX11_bearsOf 45 = .ok (.invokevirtual 300, 3) := by decide +kernel
theorem dX11_bearsOf_48 : decode cX11_bearsOf 48 = .ok (.iadd, 1) := by decide +kernel
theorem dX11_bearsOf_49 : decode cX11_bearsOf 49 = .ok (.aload_n 0, 1) := by decide +kernel
theorem dX11_bearsOf_50 : decode cX11_bearsOf 50 = .ok (.iconst (-1), 1) := by decide +kernel
theorem dX11_bearsOf_51 : decode cX11_bearsOf 51 = .ok (.iload_n 1, 1) := by decide +kernel
theorem dX11_bearsOf_52 : decode cX11_bearsOf 52 = .ok (.invokevirtual 300, 3) := by decide +kernel
theorem dX11_bearsOf_55 : decode cX11_bearsOf 55 = .ok (.isub, 1) := by decide +kernel
theorem dX11_bearsOf_56 : decode cX11_bearsOf 56 = .ok (.aload_n 0, 1) := by decide +kernel
theorem dX11_bearsOf_57 : decode cX11_bearsOf 57 = .ok (.iload_n 1, 1) := by decide +kernel
theorem dX11_bearsOf_58 : decode cX11_bearsOf 58 = .ok (.iconst 5, 1) := by decide +kernel
theorem dX11_bearsOf_59 : decode cX11_bearsOf 59 = .ok (.invokevirtual 62, 3) := by decide +kernel
theorem dX11_bearsOf_62 : decode cX11_bearsOf 62 = .ok (.bipush 10, 2) := by decide +kernel
theorem dX11_bearsOf_64 : decode cX11_bearsOf 64 = .ok (.idiv, 1) := by decide +kernel
theorem dX11_bearsOf_65 : decode cX11_bearsOf 65 = .ok (.isub, 1) := by decide +kernel
theorem dX11_bearsOf_66 : decode cX11_bearsOf 66 = .ok (.istore_n 2, 1) := by decide +kernel
theorem dX11_bearsOf_67 : decode cX11_bearsOf 67 = .ok (.iconst 0, 1) := by decide +kernel
theorem dX11_bearsOf_68 : decode cX11_bearsOf 68 = .ok (.iload_n 2, 1) := by decide +kernel
theorem dX11_bearsOf_69 : decode cX11_bearsOf 69 = .ok (.invokestatic 270, 3) := by decide +kernel
theorem dX11_bearsOf_72 : decode cX11_bearsOf 72 = .ok (.aload_n 0, 1) := by decide +kernel
theorem dX11_bearsOf_73 : decode cX11_bearsOf 73 = .ok (.iload_n 1, 1) := by decide +kernel
theorem dX11_bearsOf_74 : decode cX11_bearsOf 74 = .ok (.bipush 7, 2) := by decide +kernel
theorem dX11_bearsOf_76 : decode cX11_bearsOf 76 = .ok (.invokevirtual 62, 3) := by decide +kernel
theorem dX11_bearsOf_79 : decode cX11_bearsOf 79 = .ok (.imul, 1) := by decide +kernel
theorem dX11_bearsOf_80 : decode cX11_bearsOf 80 = .ok (.ireturn, 1) := by decide +kernel
theorem lv_RX11_297 : gLv RX11 297 RX11 yX11_soundOf cX11_soundOf 2 (some .int) 1 := gLv_of (wA_t (wt8 (List.mem_of_getElem? (i := 37) (by decide +kernel))) (by decide +kernel)) (wA_t (wt8 (List.mem_of_getElem? (i := 39) (by decide +kernel))) (by decide +kernel)) (wA_of (List.mem_append_left _ (List.mem_map.mpr ⟨(⟨"YearRopeModel", "soundOf", "(I)I"⟩, 20), wp6 (List.mem_of_getElem? (i := 2) (by decide +kernel)), rfl⟩)) (by decide +kernel)) (wA_t (wt1 (List.mem_of_getElem? (i := 12) (by decide +kernel))) (by decide +kernel)) (wA_t (wt8 (List.mem_of_getElem? (i := 40) (by decide +kernel))) (by decide +kernel)) ⟨rfl, by decide +kernel, by decide +kernel, by decide +kernel⟩
theorem lv_RX11_300 : gLv RX11 300 RX11 yX11_sumOf cX11_sumOf 5 (some .int) 2 := gLv_of (wA_t (wt8 (List.mem_of_getElem? (i := 41) (by decide +kernel))) (by decide +kernel)) (wA_t (wt8 (List.mem_of_getElem? (i := 43) (by decide +kernel))) (by decide +kernel)) (wA_of (List.mem_append_left _ (List.mem_map.mpr ⟨(⟨"YearRopeModel", "sumOf", "(II)I"⟩, 20), wp6 (List.mem_of_getElem? (i := 3) (by decide +kernel)), rfl⟩)) (by decide +kernel)) (wA_t (wt1 (List.mem_of_getElem? (i := 12) (by decide +kernel))) (by decide +kernel)) (wA_t (wt8 (List.mem_of_getElem? (i := 44) (by decide +kernel))) (by decide +kernel)) ⟨rfl, by decide +kernel, by decide +kernel, by decide +kernel⟩
def rm_X11_bearsOf : Room := { frames := 7, cells := 0, slots := 0, locals := 163 }
def f_X11_bearsOf (τ : gτ) (n : Nat) (x0 : Nat) (x1 : Int32) (G : gG) : Option (Int32 × gG) :=
  (f_X11_isWhole τ x0 x1 G).bind fun v1 =>
  if v1 = 0 then (some (0, G))
  else ((f_X11_of τ x0 x1 (0 : Int32) G).bind fun v2 =>
  (f_X11_soundOf τ x0 v2 G).bind fun v3 =>
  (f_X11_of τ x0 x1 (1 : Int32) G).bind fun v4 =>
  (f_X11_soundOf τ x0 v4 G).bind fun v5 =>
  (f_X11_of τ x0 x1 (2 : Int32) G).bind fun v6 =>
  (f_X11_soundOf τ x0 v6 G).bind fun v7 =>
  gBind2 (f_X11_sumOf τ n x0 (1 : Int32) x1 G) fun v8 G9 =>
  gBind2 (f_X11_sumOf τ n x0 (-1 : Int32) x1 G9) fun v10 G11 =>
  (f_X11_of τ x0 x1 (5 : Int32) G11).bind fun v12 =>
  gLet (((((v3 + v5) + v7) + v8) - v10) - (v12 / (10 : Int32))) fun v13 =>
  (f_X11_of τ x0 x1 (7 : Int32) G11).bind fun v14 =>
  some ((gmax (0 : Int32) v13) * v14, G11))
set_option maxHeartbeats 4000000 in
set_option maxRecDepth 100000 in
theorem c_X11_bearsOf (l : Launch) (X : gX) (τ : gτ) (n : Nat) (x0 : Nat) (x1 : Int32) (G : gG) (h0 : gK τ x0 11) {r : Int32} {G' : gG} (h : f_X11_bearsOf τ n x0 x1 G = some (r, G')) : gM l X τ yX11_bearsOf cX11_bearsOf 3 (some .int) rm_X11_bearsOf [.ref x0, .int x1] G (some (.int r)) G' := by
  refine g_body (by decide +kernel) (Nat.le_of_ble_eq_true rfl) ?_
  intro p e s m args below meth c ls fx hr hw hl
  have fx : gFx X p s m args meth c cX11_bearsOf 3 RX11 := fx
  have hl : lv_has ls 3 [(0, .ref x0), (1, .int x1)] := hl
  have hok : gOk (f_X11_bearsOf τ n x0 x1 G) (fun q => q = (r, G')) := ⟨_, h, rfl⟩
  unfold f_X11_bearsOf at hok
  show W p l e rm_X11_bearsOf s m args below meth c s.heap [] 0 0 (MQ below (gQ X τ (some (.int r)) G') args s 0 0 (gFree X)) _
  refine lv_aload_n fx.1 fx.2.1 dX11_bearsOf_0 rfl (lv_at hl 0 rfl) ?_
  refine lv_iload_n fx.1 fx.2.1 dX11_bearsOf_1 rfl (lv_at hl 1 rfl) ?_
  obtain ⟨v1, hf, hok⟩ := gOk_bind hok
  refine g_callV0 (κ := 11) fx hw (c_X11_isWhole l X τ x0 x1 G h0 hf) lv_RX11_146 ⟨rfl, rfl⟩ rfl rfl h0 rfl hl.1 rfl ⟨Nat.le_of_ble_eq_true rfl, Nat.le_of_ble_eq_true rfl⟩ (Nat.le_of_ble_eq_true rfl) ⟨Nat.le_of_ble_eq_true rfl, Nat.le_of_ble_eq_true rfl⟩ dX11_bearsOf_2 (fun H locs hw => ?_)
  refine g_if_ne (tgt := 10) fx dX11_bearsOf_5 (by decide) hok (fun hok => ?_) (fun hok => ?_)
  · refine lv_iconst (v := 0) fx.1 fx.2.1 dX11_bearsOf_8 (by decide) ?_
    cases gOk_some hok
    exact g_iret fx hw hr dX11_bearsOf_9
  · refine lv_aload_n fx.1 fx.2.1 dX11_bearsOf_10 rfl (lv_at hl 0 rfl) ?_
    refine lv_aload_n fx.1 fx.2.1 dX11_bearsOf_11 rfl (lv_at hl 0 rfl) ?_
    refine lv_iload_n fx.1 fx.2.1 dX11_bearsOf_12 rfl (lv_at hl 1 rfl) ?_
    refine lv_iconst (v := 0) fx.1 fx.2.1 dX11_bearsOf_13 (by decide) ?_
    obtain ⟨v2, hf, hok⟩ := gOk_bind hok
    refine g_callV0 (κ := 11) fx hw (c_X11_of l X τ x0 x1 (0 : Int32) G h0 hf) lv_RX11_62 ⟨rfl, rfl⟩ rfl rfl h0 rfl hl.1 rfl ⟨Nat.le_of_ble_eq_true rfl, Nat.le_of_ble_eq_true rfl⟩ (Nat.le_of_ble_eq_true rfl) ⟨Nat.le_of_ble_eq_true rfl, Nat.le_of_ble_eq_true rfl⟩ dX11_bearsOf_14 (fun H locs hw => ?_)
    obtain ⟨v3, hf, hok⟩ := gOk_bind hok
    refine g_callV0 (κ := 11) fx hw (c_X11_soundOf l X τ x0 v2 G h0 hf) lv_RX11_297 ⟨rfl, rfl⟩ rfl rfl h0 rfl hl.1 rfl ⟨Nat.le_of_ble_eq_true rfl, Nat.le_of_ble_eq_true rfl⟩ (Nat.le_of_ble_eq_true rfl) ⟨Nat.le_of_ble_eq_true rfl, Nat.le_of_ble_eq_true rfl⟩ dX11_bearsOf_17 (fun H locs hw => ?_)
    refine lv_aload_n fx.1 fx.2.1 dX11_bearsOf_20 rfl (lv_at hl 0 rfl) ?_
    refine lv_aload_n fx.1 fx.2.1 dX11_bearsOf_21 rfl (lv_at hl 0 rfl) ?_
    refine lv_iload_n fx.1 fx.2.1 dX11_bearsOf_22 rfl (lv_at hl 1 rfl) ?_
    refine lv_iconst (v := 1) fx.1 fx.2.1 dX11_bearsOf_23 (by decide) ?_
    obtain ⟨v4, hf, hok⟩ := gOk_bind hok
    refine g_callV0 (κ := 11) fx hw (c_X11_of l X τ x0 x1 (1 : Int32) G h0 hf) lv_RX11_62 ⟨rfl, rfl⟩ rfl rfl h0 rfl hl.1 rfl ⟨Nat.le_of_ble_eq_true rfl, Nat.le_of_ble_eq_true rfl⟩ (Nat.le_of_ble_eq_true rfl) ⟨Nat.le_of_ble_eq_true rfl, Nat.le_of_ble_eq_true rfl⟩ dX11_bearsOf_24 (fun H locs hw => ?_)
    obtain ⟨v5, hf, hok⟩ := gOk_bind hok
    refine g_callV0 (κ := 11) fx hw (c_X11_soundOf l X τ x0 v4 G h0 hf) lv_RX11_297 ⟨rfl, rfl⟩ rfl rfl h0 rfl hl.1 rfl ⟨Nat.le_of_ble_eq_true rfl, Nat.le_of_ble_eq_true rfl⟩ (Nat.le_of_ble_eq_true rfl) ⟨Nat.le_of_ble_eq_true rfl, Nat.le_of_ble_eq_true rfl⟩ dX11_bearsOf_27 (fun H locs hw => ?_)
    refine lv_iadd fx.1 fx.2.1 dX11_bearsOf_30 ?_
    refine lv_aload_n fx.1 fx.2.1 dX11_bearsOf_31 rfl (lv_at hl 0 rfl) ?_
    refine lv_aload_n fx.1 fx.2.1 dX11_bearsOf_32 rfl (lv_at hl 0 rfl) ?_
    refine lv_iload_n fx.1 fx.2.1 dX11_bearsOf_33 rfl (lv_at hl 1 rfl) ?_
    refine lv_iconst (v := 2) fx.1 fx.2.1 dX11_bearsOf_34 (by decide) ?_
    obtain ⟨v6, hf, hok⟩ := gOk_bind hok
    refine g_callV0 (κ := 11) fx hw (c_X11_of l X τ x0 x1 (2 : Int32) G h0 hf) lv_RX11_62 ⟨rfl, rfl⟩ rfl rfl h0 rfl hl.1 rfl ⟨Nat.le_of_ble_eq_true rfl, Nat.le_of_ble_eq_true rfl⟩ (Nat.le_of_ble_eq_true rfl) ⟨Nat.le_of_ble_eq_true rfl, Nat.le_of_ble_eq_true rfl⟩ dX11_bearsOf_35 (fun H locs hw => ?_)
    obtain ⟨v7, hf, hok⟩ := gOk_bind hok
    refine g_callV0 (κ := 11) fx hw (c_X11_soundOf l X τ x0 v6 G h0 hf) lv_RX11_297 ⟨rfl, rfl⟩ rfl rfl h0 rfl hl.1 rfl ⟨Nat.le_of_ble_eq_true rfl, Nat.le_of_ble_eq_true rfl⟩ (Nat.le_of_ble_eq_true rfl) ⟨Nat.le_of_ble_eq_true rfl, Nat.le_of_ble_eq_true rfl⟩ dX11_bearsOf_38 (fun H locs hw => ?_)
    refine lv_iadd fx.1 fx.2.1 dX11_bearsOf_41 ?_
    refine lv_aload_n fx.1 fx.2.1 dX11_bearsOf_42 rfl (lv_at hl 0 rfl) ?_
    refine lv_iconst (v := 1) fx.1 fx.2.1 dX11_bearsOf_43 (by decide) ?_
    refine lv_iload_n fx.1 fx.2.1 dX11_bearsOf_44 rfl (lv_at hl 1 rfl) ?_
    obtain ⟨v8, G9, hf, hok⟩ := gOk_bind2 hok
    refine g_callV0 (κ := 11) fx hw (c_X11_sumOf l X τ n x0 (1 : Int32) x1 G h0 hf) lv_RX11_300 ⟨rfl, rfl⟩ rfl rfl h0 rfl hl.1 rfl ⟨Nat.le_of_ble_eq_true rfl, Nat.le_of_ble_eq_true rfl⟩ (Nat.le_of_ble_eq_true rfl) ⟨Nat.le_of_ble_eq_true rfl, Nat.le_of_ble_eq_true rfl⟩ dX11_bearsOf_45 (fun H locs hw => ?_)
    refine lv_iadd fx.1 fx.2.1 dX11_bearsOf_48 ?_
    refine lv_aload_n fx.1 fx.2.1 dX11_bearsOf_49 rfl (lv_at hl 0 rfl) ?_
    refine lv_iconst (v := (-1)) fx.1 fx.2.1 dX11_bearsOf_50 (by decide) ?_
    refine lv_iload_n fx.1 fx.2.1 dX11_bearsOf_51 rfl (lv_at hl 1 rfl) ?_
    obtain ⟨v10, G11, hf, hok⟩ := gOk_bind2 hok
    refine g_callV0 (κ := 11) fx hw (c_X11_sumOf l X τ n x0 (-1 : Int32) x1 G9 h0 hf) lv_RX11_300 ⟨rfl, rfl⟩ rfl rfl h0 rfl hl.1 rfl ⟨Nat.le_of_ble_eq_true rfl, Nat.le_of_ble_eq_true rfl⟩ (Nat.le_of_ble_eq_true rfl) ⟨Nat.le_of_ble_eq_true rfl, Nat.le_of_ble_eq_true rfl⟩ dX11_bearsOf_52 (fun H locs hw => ?_)
    refine lv_isub fx.1 fx.2.1 dX11_bearsOf_55 ?_
    refine lv_aload_n fx.1 fx.2.1 dX11_bearsOf_56 rfl (lv_at hl 0 rfl) ?_
    refine lv_iload_n fx.1 fx.2.1 dX11_bearsOf_57 rfl (lv_at hl 1 rfl) ?_
    refine lv_iconst (v := 5) fx.1 fx.2.1 dX11_bearsOf_58 (by decide) ?_
    obtain ⟨v12, hf, hok⟩ := gOk_bind hok
    refine g_callV0 (κ := 11) fx hw (c_X11_of l X τ x0 x1 (5 : Int32) G11 h0 hf) lv_RX11_62 ⟨rfl, rfl⟩ rfl rfl h0 rfl hl.1 rfl ⟨Nat.le_of_ble_eq_true rfl, Nat.le_of_ble_eq_true rfl⟩ (Nat.le_of_ble_eq_true rfl) ⟨Nat.le_of_ble_eq_true rfl, Nat.le_of_ble_eq_true rfl⟩ dX11_bearsOf_59 (fun H locs hw => ?_)
    refine lv_bipush (v := 10) fx.1 fx.2.1 dX11_bearsOf_62 (by decide) ?_
    refine lv_idiv fx.1 fx.2.1 dX11_bearsOf_64 (by decide) ?_
    refine lv_isub fx.1 fx.2.1 dX11_bearsOf_65 ?_
    refine g_leti hok (fun v13 hok => ?_)
    refine lv_istore_n (lv' := [(2, .int v13), (0, .ref x0), (1, .int x1)]) fx.1 fx.2.1 dX11_bearsOf_66 rfl hl (by decide) rfl (fun ls hl => ?_)
    refine lv_iconst (v := 0) fx.1 fx.2.1 dX11_bearsOf_67 (by decide) ?_
    refine lv_iload_n fx.1 fx.2.1 dX11_bearsOf_68 rfl (lv_at hl 0 rfl) ?_
    refine g_mmax fx hl.1 lm_RX11_270 lmst_max lm_init lmco_max ⟨Nat.le_of_ble_eq_true rfl, Nat.le_of_ble_eq_true rfl, Nat.le_of_ble_eq_true rfl, Nat.le_of_ble_eq_true rfl⟩ dX11_bearsOf_69 ?_
    refine lv_aload_n fx.1 fx.2.1 dX11_bearsOf_72 rfl (lv_at hl 1 rfl) ?_
    refine lv_iload_n fx.1 fx.2.1 dX11_bearsOf_73 rfl (lv_at hl 2 rfl) ?_
    refine lv_bipush (v := 7) fx.1 fx.2.1 dX11_bearsOf_74 (by decide) ?_
    obtain ⟨v14, hf, hok⟩ := gOk_bind hok
    refine g_callV0 (κ := 11) fx hw (c_X11_of l X τ x0 x1 (7 : Int32) G11 h0 hf) lv_RX11_62 ⟨rfl, rfl⟩ rfl rfl h0 rfl hl.1 rfl ⟨Nat.le_of_ble_eq_true rfl, Nat.le_of_ble_eq_true rfl⟩ (Nat.le_of_ble_eq_true rfl) ⟨Nat.le_of_ble_eq_true rfl, Nat.le_of_ble_eq_true rfl⟩ dX11_bearsOf_76 (fun H locs hw => ?_)
    refine lv_imul fx.1 fx.2.1 dX11_bearsOf_79 ?_
    cases gOk_some hok
    exact g_iret fx hw hr dX11_bearsOf_80
theorem dX11_wearsBy_0 : decode cX11_wearsBy 0 = .ok (.aload_n 0, 1) := by decide +kernel
theorem dX11_wearsBy_1 : decode cX11_wearsBy 1 = .ok (.getfield 13, 3) := by decide +kernel
theorem dX11_wearsBy_4 : decode cX11_wearsBy 4 = .ok (.iconst 4, 1) := by decide +kernel
theorem dX11_wearsBy_5 : decode cX11_wearsBy 5 = .ok (.iaload, 1) := by decide +kernel
theorem dX11_wearsBy_6 : decode cX11_wearsBy 6 = .ok (.iconst 1, 1) := by decide +kernel
theorem dX11_wearsBy_7 : decode cX11_wearsBy 7 = .ok (.if_icmp .ne 12, 3) := by decide +kernel
theorem dX11_wearsBy_10 : decode cX11_wearsBy 10 = .ok (.aload_n 0, 1) := by decide +kernel
theorem dX11_wearsBy_11 : decode cX11_wearsBy 11 = .ok (.iconst 0, 1) := by decide +kernel
theorem dX11_wearsBy_12 : decode cX11_wearsBy 12 = .ok (.iload_n 1, 1) := by decide +kernel
theorem dX11_wearsBy_13 : decode cX11_wearsBy 13 = .ok (.invokevirtual 300, 3) := by decide +kernel
theorem dX11_wearsBy_16 : decode cX11_wearsBy 16 = .ok (.goto 4, 3) := by decide +kernel
theorem dX11_wearsBy_19 : decode cX11_wearsBy 19 = .ok (.iconst 1, 1) := by decide +kernel
theorem dX11_wearsBy_20 : decode cX11_wearsBy 20 = .ok (.ireturn, 1) := by decide +kernel
def rm_X11_wearsBy : Room := { frames := 7, cells := 0, slots := 0, locals := 163 }
def f_X11_wearsBy (τ : gτ) (n : Nat) (x0 : Nat) (x1 : Int32) (G : gG) : Option (Int32 × gG) :=
  (gr G 11 1 x0).bind fun a1 =>
  gchk (gIn (4 : Int32) (gn τ a1)) <|
  if (ge G a1 (Int32.toNatClampNeg (4 : Int32))) = (1 : Int32) then (gBind2 (f_X11_sumOf τ n x0 (0 : Int32) x1 G) fun v2 G3 =>
  some (v2, G3))
  else (some (1, G))
set_option maxHeartbeats 4000000 in
set_option maxRecDepth 100000 in
theorem c_X11_wearsBy (l : Launch) (X : gX) (τ : gτ) (n : Nat) (x0 : Nat) (x1 : Int32) (G : gG) (h0 : gK τ x0 11) {r : Int32} {G' : gG} (h : f_X11_wearsBy τ n x0 x1 G = some (r, G')) : gM l X τ yX11_wearsBy cX11_wearsBy 2 (some .int) rm_X11_wearsBy [.ref x0, .int x1] G (some (.int r)) G' := by
  refine g_body (by decide +kernel) (Nat.le_of_ble_eq_true rfl) ?_
  intro p e s m args below meth c ls fx hr hw hl
  have fx : gFx X p s m args meth c cX11_wearsBy 2 RX11 := fx
  have hl : lv_has ls 2 [(0, .ref x0), (1, .int x1)] := hl
  have hok : gOk (f_X11_wearsBy τ n x0 x1 G) (fun q => q = (r, G')) := ⟨_, h, rfl⟩
  unfold f_X11_wearsBy at hok
  show W p l e rm_X11_wearsBy s m args below meth c s.heap [] 0 0 (MQ below (gQ X τ (some (.int r)) G') args s 0 0 (gFree X)) _
  refine lv_aload_n fx.1 fx.2.1 dX11_wearsBy_0 rfl (lv_at hl 0 rfl) ?_
  refine g_getr fx hw h0 lf_RX11_13 rfl dX11_wearsBy_1 hok (fun a1 h_a1 hok => ?_)
  refine lv_iconst (v := 4) fx.1 fx.2.1 dX11_wearsBy_4 (by decide) ?_
  refine g_iald fx hw h_a1 dX11_wearsBy_5 hok (fun hok => ?_)
  refine lv_iconst (v := 1) fx.1 fx.2.1 dX11_wearsBy_6 (by decide) ?_
  refine g_icmp_ne (tgt := 19) fx dX11_wearsBy_7 (by decide) hok (fun hok => ?_) (fun hok => ?_)
  · refine lv_aload_n fx.1 fx.2.1 dX11_wearsBy_10 rfl (lv_at hl 0 rfl) ?_
    refine lv_iconst (v := 0) fx.1 fx.2.1 dX11_wearsBy_11 (by decide) ?_
    refine lv_iload_n fx.1 fx.2.1 dX11_wearsBy_12 rfl (lv_at hl 1 rfl) ?_
    obtain ⟨v2, G3, hf, hok⟩ := gOk_bind2 hok
    refine g_callV0 (κ := 11) fx hw (c_X11_sumOf l X τ n x0 (0 : Int32) x1 G h0 hf) lv_RX11_300 ⟨rfl, rfl⟩ rfl rfl h0 rfl hl.1 rfl ⟨Nat.le_of_ble_eq_true rfl, Nat.le_of_ble_eq_true rfl⟩ (Nat.le_of_ble_eq_true rfl) ⟨Nat.le_of_ble_eq_true rfl, Nat.le_of_ble_eq_true rfl⟩ dX11_wearsBy_13 (fun H locs hw => ?_)
    refine lv_goto (tgt := 20) fx.1 fx.2.1 dX11_wearsBy_16 (by decide) ?_
    cases gOk_some hok
    exact g_iret fx hw hr dX11_wearsBy_20
  · refine lv_iconst (v := 1) fx.1 fx.2.1 dX11_wearsBy_19 (by decide) ?_
    cases gOk_some hok
    exact g_iret fx hw hr dX11_wearsBy_20
theorem dX11_bearsBy_0 : decode cX11_bearsBy 0 = .ok (.aload_n 0, 1) := by decide +kernel
theorem dX11_bearsBy_1 : decode cX11_bearsBy 1 = .ok (.bipush 8, 2) := by decide +kernel
theorem dX11_bearsBy_3 : decode cX11_bearsBy 3 = .ok (.iload_n 1, 1) := by decide +kernel
theorem dX11_bearsBy_4 : decode cX11_bearsBy 4 = .ok (.iload_n 2, 1) := by decide +kernel
theorem dX11_bearsBy_5 : decode cX11_bearsBy 5 = .ok (.iload_n 3, 1) := by decide +kernel
theorem dX11_bearsBy_6 : decode cX11_bearsBy 6 = .ok (.iload 4, 2) := by decide +kernel
theorem dX11_bearsBy_8 : decode cX11_bearsBy 8 = .ok (.invokevirtual 128, 3) := by decide +kernel
theorem dX11_bearsBy_11 : decode cX11_bearsBy 11 = .ok (.aload_n 0, 1) := by decide +kernel
theorem dX11_bearsBy_12 : decode cX11_bearsBy 12 = .ok (.bipush 8, 2) := by decide +kernel
theorem dX11_bearsBy_14 : decode cX11_bearsBy 14 = .ok (.invokevirtual 303, 3) := by decide +kernel
theorem dX11_bearsBy_17 : decode cX11_bearsBy 17 = .ok (.ireturn, 1) := by decide +kernel
theorem lv_RX11_303 : gLv RX11 303 RX11 yX11_bearsOf cX11_bearsOf 3 (some .int) 1 := gLv_of (wA_t (wt8 (List.mem_of_getElem? (i := 33) (by decide +kernel))) (by decide +kernel)) (wA_t (wt8 (List.mem_of_getElem? (i := 35) (by decide +kernel))) (by decide +kernel)) (wA_of (List.mem_append_left _ (List.mem_map.mpr ⟨(⟨"YearRopeModel", "bearsOf", "(I)I"⟩, 20), wp6 (List.mem_of_getElem? (i := 1) (by decide +kernel)), rfl⟩)) (by decide +kernel)) (wA_t (wt1 (List.mem_of_getElem? (i := 12) (by decide +kernel))) (by decide +kernel)) (wA_t (wt8 (List.mem_of_getElem? (i := 36) (by decide +kernel))) (by decide +kernel)) ⟨rfl, by decide +kernel, by decide +kernel, by decide +kernel⟩
def rm_X11_bearsBy : Room := { frames := 8, cells := 0, slots := 0, locals := 185 }
def f_X11_bearsBy (τ : gτ) (n : Nat) (x0 : Nat) (x1 : Int32) (x2 : Int32) (x3 : Int32) (x4 : Int32) (G : gG) : Option (Int32 × gG) :=
  (f_X11_lays τ n x0 (8 : Int32) x1 x2 x3 x4 G).bind fun G1 =>
  gBind2 (f_X11_bearsOf τ n x0 (8 : Int32) G1) fun v2 G3 =>
  some (v2, G3)
set_option maxHeartbeats 4000000 in
set_option maxRecDepth 100000 in
theorem c_X11_bearsBy (l : Launch) (X : gX) (τ : gτ) (n : Nat) (x0 : Nat) (x1 : Int32) (x2 : Int32) (x3 : Int32) (x4 : Int32) (G : gG) (h0 : gK τ x0 11) {r : Int32} {G' : gG} (h : f_X11_bearsBy τ n x0 x1 x2 x3 x4 G = some (r, G')) : gM l X τ yX11_bearsBy cX11_bearsBy 5 (some .int) rm_X11_bearsBy [.ref x0, .int x1, .int x2, .int x3, .int x4] G (some (.int r)) G' := by
  refine g_body (by decide +kernel) (Nat.le_of_ble_eq_true rfl) ?_
  intro p e s m args below meth c ls fx hr hw hl
  have fx : gFx X p s m args meth c cX11_bearsBy 5 RX11 := fx
  have hl : lv_has ls 5 [(0, .ref x0), (1, .int x1), (2, .int x2), (3, .int x3), (4, .int x4)] := hl
  have hok : gOk (f_X11_bearsBy τ n x0 x1 x2 x3 x4 G) (fun q => q = (r, G')) := ⟨_, h, rfl⟩
  unfold f_X11_bearsBy at hok
  show W p l e rm_X11_bearsBy s m args below meth c s.heap [] 0 0 (MQ below (gQ X τ (some (.int r)) G') args s 0 0 (gFree X)) _
  refine lv_aload_n fx.1 fx.2.1 dX11_bearsBy_0 rfl (lv_at hl 0 rfl) ?_
  refine lv_bipush (v := 8) fx.1 fx.2.1 dX11_bearsBy_1 (by decide) ?_
  refine lv_iload_n fx.1 fx.2.1 dX11_bearsBy_3 rfl (lv_at hl 1 rfl) ?_
  refine lv_iload_n fx.1 fx.2.1 dX11_bearsBy_4 rfl (lv_at hl 2 rfl) ?_
  refine lv_iload_n fx.1 fx.2.1 dX11_bearsBy_5 rfl (lv_at hl 3 rfl) ?_
  refine lv_iload fx.1 fx.2.1 dX11_bearsBy_6 (lv_at hl 4 rfl) ?_
  obtain ⟨G1, hf, hok⟩ := gOk_bind hok
  refine g_callV0 (κ := 11) fx hw (c_X11_lays l X τ n x0 (8 : Int32) x1 x2 x3 x4 G h0 hf) lv_RX11_128 ⟨rfl, rfl⟩ rfl rfl h0 rfl hl.1 rfl ⟨Nat.le_of_ble_eq_true rfl, Nat.le_of_ble_eq_true rfl⟩ (Nat.le_of_ble_eq_true rfl) ⟨Nat.le_of_ble_eq_true rfl, Nat.le_of_ble_eq_true rfl⟩ dX11_bearsBy_8 (fun H locs hw => ?_)
  refine lv_aload_n fx.1 fx.2.1 dX11_bearsBy_11 rfl (lv_at hl 0 rfl) ?_
  refine lv_bipush (v := 8) fx.1 fx.2.1 dX11_bearsBy_12 (by decide) ?_
  obtain ⟨v2, G3, hf, hok⟩ := gOk_bind2 hok
  refine g_callV0 (κ := 11) fx hw (c_X11_bearsOf l X τ n x0 (8 : Int32) G1 h0 hf) lv_RX11_303 ⟨rfl, rfl⟩ rfl rfl h0 rfl hl.1 rfl ⟨Nat.le_of_ble_eq_true rfl, Nat.le_of_ble_eq_true rfl⟩ (Nat.le_of_ble_eq_true rfl) ⟨Nat.le_of_ble_eq_true rfl, Nat.le_of_ble_eq_true rfl⟩ dX11_bearsBy_14 (fun H locs hw => ?_)
  cases gOk_some hok
  exact g_iret fx hw hr dX11_bearsBy_17
theorem dX11_priceOfYarn_0 : decode cX11_priceOfYarn 0 = .ok (.iconst 0, 1) := by decide +kernel
theorem dX11_priceOfYarn_1 : decode cX11_priceOfYarn 1 = .ok (.iconst 3, 1) := by decide +kernel
theorem dX11_priceOfYarn_2 : decode cX11_priceOfYarn 2 = .ok (.aload_n 0, 1) := by decide +kernel
theorem dX11_priceOfYarn_3 : decode cX11_priceOfYarn 3 = .ok (.iload_n 1, 1) := by decide +kernel
theorem dX11_priceOfYarn_4 : decode cX11_priceOfYarn 4 = .ok (.iconst 0, 1) := by decide +kernel
theorem dX11_priceOfYarn_5 : decode cX11_priceOfYarn 5 = .ok (.invokevirtual 132, 3) := by decide +kernel
theorem dX11_priceOfYarn_8 : decode cX11_priceOfYarn 8 = .ok (.imul, 1) := by decide +kernel
theorem dX11_priceOfYarn_9 : decode cX11_priceOfYarn 9 = .ok (.iconst 2, 1) := by decide +kernel
theorem dX11_priceOfYarn_10 : decode cX11_priceOfYarn 10 = .ok (.aload_n 0, 1) := by decide +kernel
theorem dX11_priceOfYarn_11 : decode cX11_priceOfYarn 11 = .ok (.iload_n 1, 1) := by decide +kernel
theorem dX11_priceOfYarn_12 : decode cX11_priceOfYarn 12 = .ok (.iconst 2, 1) := by decide +kernel
theorem dX11_priceOfYarn_13 : decode cX11_priceOfYarn 13 = .ok (.invokevirtual 132, 3) := by decide +kernel
theorem dX11_priceOfYarn_16 : decode cX11_priceOfYarn 16 = .ok (.imul, 1) := by decide +kernel
theorem dX11_priceOfYarn_17 : decode cX11_priceOfYarn 17 = .ok (.isub, 1) := by decide +kernel
theorem dX11_priceOfYarn_18 : decode cX11_priceOfYarn 18 = .ok (.invokestatic 270, 3) := by decide +kernel
theorem dX11_priceOfYarn_21 : decode cX11_priceOfYarn 21 = .ok (.aload_n 0, 1) := by decide +kernel
theorem dX11_priceOfYarn_22 : decode cX11_priceOfYarn 22 = .ok (.iload_n 1, 1) := by decide +kernel
theorem dX11_priceOfYarn_23 : decode cX11_priceOfYarn 23 = .ok (.iconst 3, 1) := by decide +kernel
theorem dX11_priceOfYarn_24 : decode cX11_priceOfYarn 24 = .ok (.invokevirtual 132, 3) := by decide +kernel
theorem dX11_priceOfYarn_27 : decode cX11_priceOfYarn 27 = .ok (.iadd, 1) := by decide +kernel
theorem dX11_priceOfYarn_28 : decode cX11_priceOfYarn 28 = .ok (.ireturn, 1) := by decide +kernel
def rm_X11_priceOfYarn : Room := { frames := 2, cells := 0, slots := 0, locals := 43 }
def f_X11_priceOfYarn (τ : gτ) (x0 : Nat) (x1 : Int32) (G : gG) : Option (Int32) :=
  (f_X11_ofYarn τ x0 x1 (0 : Int32) G).bind fun v1 =>
  (f_X11_ofYarn τ x0 x1 (2 : Int32) G).bind fun v2 =>
  (f_X11_ofYarn τ x0 x1 (3 : Int32) G).bind fun v3 =>
  some ((gmax (0 : Int32) (((3 : Int32) * v1) - ((2 : Int32) * v2))) + v3)
set_option maxHeartbeats 4000000 in
set_option maxRecDepth 100000 in
theorem c_X11_priceOfYarn (l : Launch) (X : gX) (τ : gτ) (x0 : Nat) (x1 : Int32) (G : gG) (h0 : gK τ x0 11) {r : Int32}  (h : f_X11_priceOfYarn τ x0 x1 G = some r) : gM l X τ yX11_priceOfYarn cX11_priceOfYarn 2 (some .int) rm_X11_priceOfYarn [.ref x0, .int x1] G (some (.int r)) G := by
  refine g_body (by decide +kernel) (Nat.le_of_ble_eq_true rfl) ?_
  intro p e s m args below meth c ls fx hr hw hl
  have fx : gFx X p s m args meth c cX11_priceOfYarn 2 RX11 := fx
  have hl : lv_has ls 2 [(0, .ref x0), (1, .int x1)] := hl
  have hok : gOk (f_X11_priceOfYarn τ x0 x1 G) (fun q => q = r) := ⟨_, h, rfl⟩
  unfold f_X11_priceOfYarn at hok
  show W p l e rm_X11_priceOfYarn s m args below meth c s.heap [] 0 0 (MQ below (gQ X τ (some (.int r)) G) args s 0 0 (gFree X)) _
  refine lv_iconst (v := 0) fx.1 fx.2.1 dX11_priceOfYarn_0 (by decide) ?_
  refine lv_iconst (v := 3) fx.1 fx.2.1 dX11_priceOfYarn_1 (by decide) ?_
  refine lv_aload_n fx.1 fx.2.1 dX11_priceOfYarn_2 rfl (lv_at hl 0 rfl) ?_
  refine lv_iload_n fx.1 fx.2.1 dX11_priceOfYarn_3 rfl (lv_at hl 1 rfl) ?_
  refine lv_iconst (v := 0) fx.1 fx.2.1 dX11_priceOfYarn_4 (by decide) ?_
  obtain ⟨v1, hf, hok⟩ := gOk_bind hok
  refine g_callV0 (κ := 11) fx hw (c_X11_ofYarn l X τ x0 x1 (0 : Int32) G h0 hf) lv_RX11_132 ⟨rfl, rfl⟩ rfl rfl h0 rfl hl.1 rfl ⟨Nat.le_of_ble_eq_true rfl, Nat.le_of_ble_eq_true rfl⟩ (Nat.le_of_ble_eq_true rfl) ⟨Nat.le_of_ble_eq_true rfl, Nat.le_of_ble_eq_true rfl⟩ dX11_priceOfYarn_5 (fun H locs hw => ?_)
  refine lv_imul fx.1 fx.2.1 dX11_priceOfYarn_8 ?_
  refine lv_iconst (v := 2) fx.1 fx.2.1 dX11_priceOfYarn_9 (by decide) ?_
  refine lv_aload_n fx.1 fx.2.1 dX11_priceOfYarn_10 rfl (lv_at hl 0 rfl) ?_
  refine lv_iload_n fx.1 fx.2.1 dX11_priceOfYarn_11 rfl (lv_at hl 1 rfl) ?_
  refine lv_iconst (v := 2) fx.1 fx.2.1 dX11_priceOfYarn_12 (by decide) ?_
  obtain ⟨v2, hf, hok⟩ := gOk_bind hok
  refine g_callV0 (κ := 11) fx hw (c_X11_ofYarn l X τ x0 x1 (2 : Int32) G h0 hf) lv_RX11_132 ⟨rfl, rfl⟩ rfl rfl h0 rfl hl.1 rfl ⟨Nat.le_of_ble_eq_true rfl, Nat.le_of_ble_eq_true rfl⟩ (Nat.le_of_ble_eq_true rfl) ⟨Nat.le_of_ble_eq_true rfl, Nat.le_of_ble_eq_true rfl⟩ dX11_priceOfYarn_13 (fun H locs hw => ?_)
  refine lv_imul fx.1 fx.2.1 dX11_priceOfYarn_16 ?_
  refine lv_isub fx.1 fx.2.1 dX11_priceOfYarn_17 ?_
  refine g_mmax fx hl.1 lm_RX11_270 lmst_max lm_init lmco_max ⟨Nat.le_of_ble_eq_true rfl, Nat.le_of_ble_eq_true rfl, Nat.le_of_ble_eq_true rfl, Nat.le_of_ble_eq_true rfl⟩ dX11_priceOfYarn_18 ?_
  refine lv_aload_n fx.1 fx.2.1 dX11_priceOfYarn_21 rfl (lv_at hl 0 rfl) ?_
  refine lv_iload_n fx.1 fx.2.1 dX11_priceOfYarn_22 rfl (lv_at hl 1 rfl) ?_
  refine lv_iconst (v := 3) fx.1 fx.2.1 dX11_priceOfYarn_23 (by decide) ?_
  obtain ⟨v3, hf, hok⟩ := gOk_bind hok
  refine g_callV0 (κ := 11) fx hw (c_X11_ofYarn l X τ x0 x1 (3 : Int32) G h0 hf) lv_RX11_132 ⟨rfl, rfl⟩ rfl rfl h0 rfl hl.1 rfl ⟨Nat.le_of_ble_eq_true rfl, Nat.le_of_ble_eq_true rfl⟩ (Nat.le_of_ble_eq_true rfl) ⟨Nat.le_of_ble_eq_true rfl, Nat.le_of_ble_eq_true rfl⟩ dX11_priceOfYarn_24 (fun H locs hw => ?_)
  refine lv_iadd fx.1 fx.2.1 dX11_priceOfYarn_27 ?_
  cases gOk_some hok
  exact g_iret fx hw hr dX11_priceOfYarn_28
theorem dX11_priceOf_0 : decode cX11_priceOf 0 = .ok (.aload_n 0, 1) := by decide +kernel
theorem dX11_priceOf_1 : decode cX11_priceOf 1 = .ok (.iload_n 1, 1) := by decide +kernel
theorem dX11_priceOf_2 : decode cX11_priceOf 2 = .ok (.invokevirtual 146, 3) := by decide +kernel
theorem dX11_priceOf_5 : decode cX11_priceOf 5 = .ok (.ifCond .eq 48, 3) := by decide +kernel
theorem dX11_priceOf_8 : decode cX11_priceOf 8 = .ok (.aload_n 0, 1) := by decide +kernel
theorem dX11_priceOf_9 : decode cX11_priceOf 9 = .ok (.aload_n 0, 1) := by decide +kernel
theorem dX11_priceOf_10 : decode cX11_priceOf 10 = .ok (.iload_n 1, 1) := by decide +kernel
theorem dX11_priceOf_11 : decode cX11_priceOf 11 = .ok (.iconst 0, 1) := by decide +kernel
theorem dX11_priceOf_12 : decode cX11_priceOf 12 = .ok (.invokevirtual 62, 3) := by decide +kernel
theorem dX11_priceOf_15 : decode cX11_priceOf 15 = .ok (.invokevirtual 306, 3) := by decide +kernel
theorem dX11_priceOf_18 : decode cX11_priceOf 18 = .ok (.aload_n 0, 1) := by decide +kernel
theorem dX11_priceOf_19 : decode cX11_priceOf 19 = .ok (.aload_n 0, 1) := by decide +kernel
theorem dX11_priceOf_20 : decode cX11_priceOf 20 = .ok (.iload_n 1, 1) := by decide +kernel
theorem dX11_priceOf_21 : decode cX11_priceOf 21 = .ok (.iconst 1, 1) := by decide +kernel
theorem dX11_priceOf_22 : decode cX11_priceOf 22 = .ok (.invokevirtual 62, 3) := by decide +kernel
theorem dX11_priceOf_25 : decode cX11_priceOf 25 = .ok (.invokevirtual 306, 3) := by decide +kernel
theorem dX11_priceOf_28 : decode cX11_priceOf 28 = .ok (.iadd, 1) := by decide +kernel
theorem dX11_priceOf_29 : decode cX11_priceOf 29 = .ok (.aload_n 0, 1) := by decide +kernel
theorem dX11_priceOf_30 : decode cX11_priceOf 30 = .ok (.aload_n 0, 1) := by decide +kernel
theorem dX11_priceOf_31 : decode cX11_priceOf 31 = .ok (.iload_n 1, 1) := by decide +kernel
theorem dX11_priceOf_32 : decode cX11_priceOf 32 = .ok (.iconst 2, 1) := by decide +kernel
theorem dX11_priceOf_33 : decode cX11_priceOf 33 = .ok (.invokevirtual 62, 3) := by decide +kernel
theorem dX11_priceOf_36 : decode cX11_priceOf 36 = .ok (.invokevirtual 306, 3) := by decide +kernel
theorem dX11_priceOf_39 : decode cX11_priceOf 39 = .ok (.iadd, 1) := by decide +kernel
theorem dX11_priceOf_40 : decode cX11_priceOf 40 = .ok (.aload_n 0, 1) := by decide +kernel
theorem dX11_priceOf_41 : decode cX11_priceOf 41 = .ok (.iload_n 1, 1) := by decide +kernel
theorem dX11_priceOf_42 : decode cX11_priceOf 42 = .ok (.iconst 3, 1) := by decide +kernel
theorem dX11_priceOf_43 : decode cX11_priceOf 43 = .ok (.invokevirtual 62, 3) := by decide +kernel
theorem dX11_priceOf_46 : decode cX11_priceOf 46 = .ok (.imul, 1) := by decide +kernel
theorem dX11_priceOf_47 : decode cX11_priceOf 47 = .ok (.bipush 10, 2) := by decide +kernel
theorem dX11_priceOf_49 : decode cX11_priceOf 49 = .ok (.idiv, 1) := by decide +kernel
theorem dX11_priceOf_50 : decode cX11_priceOf 50 = .ok (.goto 4, 3) := by decide +kernel
theorem dX11_priceOf_53 : decode cX11_priceOf 53 = .ok (.iconst 0, 1) := by decide +kernel
theorem dX11_priceOf_54 : decode cX11_priceOf 54 = .ok (.ireturn, 1) := by decide +kernel
theorem lv_RX11_306 : gLv RX11 306 RX11 yX11_priceOfYarn cX11_priceOfYarn 2 (some .int) 1 := gLv_of (wA_t (wt8 (List.mem_of_getElem? (i := 9) (by decide +kernel))) (by decide +kernel)) (wA_t (wt8 (List.mem_of_getElem? (i := 11) (by decide +kernel))) (by decide +kernel)) (wA_of (List.mem_append_left _ (List.mem_map.mpr ⟨(⟨"YearRopeModel", "priceOfYarn", "(I)I"⟩, 20), wp5 (List.mem_of_getElem? (i := 13) (by decide +kernel)), rfl⟩)) (by decide +kernel)) (wA_t (wt1 (List.mem_of_getElem? (i := 12) (by decide +kernel))) (by decide +kernel)) (wA_t (wt8 (List.mem_of_getElem? (i := 12) (by decide +kernel))) (by decide +kernel)) ⟨rfl, by decide +kernel, by decide +kernel, by decide +kernel⟩
def rm_X11_priceOf : Room := { frames := 3, cells := 0, slots := 0, locals := 64 }
def f_X11_priceOf (τ : gτ) (x0 : Nat) (x1 : Int32) (G : gG) : Option (Int32) :=
  (f_X11_isWhole τ x0 x1 G).bind fun v1 =>
  if v1 = 0 then (some (0))
  else ((f_X11_of τ x0 x1 (0 : Int32) G).bind fun v2 =>
  (f_X11_priceOfYarn τ x0 v2 G).bind fun v3 =>
  (f_X11_of τ x0 x1 (1 : Int32) G).bind fun v4 =>
  (f_X11_priceOfYarn τ x0 v4 G).bind fun v5 =>
  (f_X11_of τ x0 x1 (2 : Int32) G).bind fun v6 =>
  (f_X11_priceOfYarn τ x0 v6 G).bind fun v7 =>
  (f_X11_of τ x0 x1 (3 : Int32) G).bind fun v8 =>
  some ((((v3 + v5) + v7) * v8) / (10 : Int32)))
set_option maxHeartbeats 4000000 in
set_option maxRecDepth 100000 in
theorem c_X11_priceOf (l : Launch) (X : gX) (τ : gτ) (x0 : Nat) (x1 : Int32) (G : gG) (h0 : gK τ x0 11) {r : Int32}  (h : f_X11_priceOf τ x0 x1 G = some r) : gM l X τ yX11_priceOf cX11_priceOf 2 (some .int) rm_X11_priceOf [.ref x0, .int x1] G (some (.int r)) G := by
  refine g_body (by decide +kernel) (Nat.le_of_ble_eq_true rfl) ?_
  intro p e s m args below meth c ls fx hr hw hl
  have fx : gFx X p s m args meth c cX11_priceOf 2 RX11 := fx
  have hl : lv_has ls 2 [(0, .ref x0), (1, .int x1)] := hl
  have hok : gOk (f_X11_priceOf τ x0 x1 G) (fun q => q = r) := ⟨_, h, rfl⟩
  unfold f_X11_priceOf at hok
  show W p l e rm_X11_priceOf s m args below meth c s.heap [] 0 0 (MQ below (gQ X τ (some (.int r)) G) args s 0 0 (gFree X)) _
  refine lv_aload_n fx.1 fx.2.1 dX11_priceOf_0 rfl (lv_at hl 0 rfl) ?_
  refine lv_iload_n fx.1 fx.2.1 dX11_priceOf_1 rfl (lv_at hl 1 rfl) ?_
  obtain ⟨v1, hf, hok⟩ := gOk_bind hok
  refine g_callV0 (κ := 11) fx hw (c_X11_isWhole l X τ x0 x1 G h0 hf) lv_RX11_146 ⟨rfl, rfl⟩ rfl rfl h0 rfl hl.1 rfl ⟨Nat.le_of_ble_eq_true rfl, Nat.le_of_ble_eq_true rfl⟩ (Nat.le_of_ble_eq_true rfl) ⟨Nat.le_of_ble_eq_true rfl, Nat.le_of_ble_eq_true rfl⟩ dX11_priceOf_2 (fun H locs hw => ?_)
  refine g_if_eq (tgt := 53) fx dX11_priceOf_5 (by decide) hok (fun hok => ?_) (fun hok => ?_)
  · refine lv_iconst (v := 0) fx.1 fx.2.1 dX11_priceOf_53 (by decide) ?_
    cases gOk_some hok
    exact g_iret fx hw hr dX11_priceOf_54
  · refine lv_aload_n fx.1 fx.2.1 dX11_priceOf_8 rfl (lv_at hl 0 rfl) ?_
    refine lv_aload_n fx.1 fx.2.1 dX11_priceOf_9 rfl (lv_at hl 0 rfl) ?_
    refine lv_iload_n fx.1 fx.2.1 dX11_priceOf_10 rfl (lv_at hl 1 rfl) ?_
    refine lv_iconst (v := 0) fx.1 fx.2.1 dX11_priceOf_11 (by decide) ?_
    obtain ⟨v2, hf, hok⟩ := gOk_bind hok
    refine g_callV0 (κ := 11) fx hw (c_X11_of l X τ x0 x1 (0 : Int32) G h0 hf) lv_RX11_62 ⟨rfl, rfl⟩ rfl rfl h0 rfl hl.1 rfl ⟨Nat.le_of_ble_eq_true rfl, Nat.le_of_ble_eq_true rfl⟩ (Nat.le_of_ble_eq_true rfl) ⟨Nat.le_of_ble_eq_true rfl, Nat.le_of_ble_eq_true rfl⟩ dX11_priceOf_12 (fun H locs hw => ?_)
    obtain ⟨v3, hf, hok⟩ := gOk_bind hok
    refine g_callV0 (κ := 11) fx hw (c_X11_priceOfYarn l X τ x0 v2 G h0 hf) lv_RX11_306 ⟨rfl, rfl⟩ rfl rfl h0 rfl hl.1 rfl ⟨Nat.le_of_ble_eq_true rfl, Nat.le_of_ble_eq_true rfl⟩ (Nat.le_of_ble_eq_true rfl) ⟨Nat.le_of_ble_eq_true rfl, Nat.le_of_ble_eq_true rfl⟩ dX11_priceOf_15 (fun H locs hw => ?_)
    refine lv_aload_n fx.1 fx.2.1 dX11_priceOf_18 rfl (lv_at hl 0 rfl) ?_
    refine lv_aload_n fx.1 fx.2.1 dX11_priceOf_19 rfl (lv_at hl 0 rfl) ?_
    refine lv_iload_n fx.1 fx.2.1 dX11_priceOf_20 rfl (lv_at hl 1 rfl) ?_
    refine lv_iconst (v := 1) fx.1 fx.2.1 dX11_priceOf_21 (by decide) ?_
    obtain ⟨v4, hf, hok⟩ := gOk_bind hok
    refine g_callV0 (κ := 11) fx hw (c_X11_of l X τ x0 x1 (1 : Int32) G h0 hf) lv_RX11_62 ⟨rfl, rfl⟩ rfl rfl h0 rfl hl.1 rfl ⟨Nat.le_of_ble_eq_true rfl, Nat.le_of_ble_eq_true rfl⟩ (Nat.le_of_ble_eq_true rfl) ⟨Nat.le_of_ble_eq_true rfl, Nat.le_of_ble_eq_true rfl⟩ dX11_priceOf_22 (fun H locs hw => ?_)
    obtain ⟨v5, hf, hok⟩ := gOk_bind hok
    refine g_callV0 (κ := 11) fx hw (c_X11_priceOfYarn l X τ x0 v4 G h0 hf) lv_RX11_306 ⟨rfl, rfl⟩ rfl rfl h0 rfl hl.1 rfl ⟨Nat.le_of_ble_eq_true rfl, Nat.le_of_ble_eq_true rfl⟩ (Nat.le_of_ble_eq_true rfl) ⟨Nat.le_of_ble_eq_true rfl, Nat.le_of_ble_eq_true rfl⟩ dX11_priceOf_25 (fun H locs hw => ?_)
    refine lv_iadd fx.1 fx.2.1 dX11_priceOf_28 ?_
    refine lv_aload_n fx.1 fx.2.1 dX11_priceOf_29 rfl (lv_at hl 0 rfl) ?_
    refine lv_aload_n fx.1 fx.2.1 dX11_priceOf_30 rfl (lv_at hl 0 rfl) ?_
    refine lv_iload_n fx.1 fx.2.1 dX11_priceOf_31 rfl (lv_at hl 1 rfl) ?_
    refine lv_iconst (v := 2) fx.1 fx.2.1 dX11_priceOf_32 (by decide) ?_
    obtain ⟨v6, hf, hok⟩ := gOk_bind hok
    refine g_callV0 (κ := 11) fx hw (c_X11_of l X τ x0 x1 (2 : Int32) G h0 hf) lv_RX11_62 ⟨rfl, rfl⟩ rfl rfl h0 rfl hl.1 rfl ⟨Nat.le_of_ble_eq_true rfl, Nat.le_of_ble_eq_true rfl⟩ (Nat.le_of_ble_eq_true rfl) ⟨Nat.le_of_ble_eq_true rfl, Nat.le_of_ble_eq_true rfl⟩ dX11_priceOf_33 (fun H locs hw => ?_)
    obtain ⟨v7, hf, hok⟩ := gOk_bind hok
    refine g_callV0 (κ := 11) fx hw (c_X11_priceOfYarn l X τ x0 v6 G h0 hf) lv_RX11_306 ⟨rfl, rfl⟩ rfl rfl h0 rfl hl.1 rfl ⟨Nat.le_of_ble_eq_true rfl, Nat.le_of_ble_eq_true rfl⟩ (Nat.le_of_ble_eq_true rfl) ⟨Nat.le_of_ble_eq_true rfl, Nat.le_of_ble_eq_true rfl⟩ dX11_priceOf_36 (fun H locs hw => ?_)
    refine lv_iadd fx.1 fx.2.1 dX11_priceOf_39 ?_
    refine lv_aload_n fx.1 fx.2.1 dX11_priceOf_40 rfl (lv_at hl 0 rfl) ?_
    refine lv_iload_n fx.1 fx.2.1 dX11_priceOf_41 rfl (lv_at hl 1 rfl) ?_
    refine lv_iconst (v := 3) fx.1 fx.2.1 dX11_priceOf_42 (by decide) ?_
    obtain ⟨v8, hf, hok⟩ := gOk_bind hok
    refine g_callV0 (κ := 11) fx hw (c_X11_of l X τ x0 x1 (3 : Int32) G h0 hf) lv_RX11_62 ⟨rfl, rfl⟩ rfl rfl h0 rfl hl.1 rfl ⟨Nat.le_of_ble_eq_true rfl, Nat.le_of_ble_eq_true rfl⟩ (Nat.le_of_ble_eq_true rfl) ⟨Nat.le_of_ble_eq_true rfl, Nat.le_of_ble_eq_true rfl⟩ dX11_priceOf_43 (fun H locs hw => ?_)
    refine lv_imul fx.1 fx.2.1 dX11_priceOf_46 ?_
    refine lv_bipush (v := 10) fx.1 fx.2.1 dX11_priceOf_47 (by decide) ?_
    refine lv_idiv fx.1 fx.2.1 dX11_priceOf_49 (by decide) ?_
    refine lv_goto (tgt := 54) fx.1 fx.2.1 dX11_priceOf_50 (by decide) ?_
    cases gOk_some hok
    exact g_iret fx hw hr dX11_priceOf_54
theorem dX11_yarnSet_0 : decode cX11_yarnSet 0 = .ok (.iconst 1, 1) := by decide +kernel
theorem dX11_yarnSet_1 : decode cX11_yarnSet 1 = .ok (.aload_n 0, 1) := by decide +kernel
theorem dX11_yarnSet_2 : decode cX11_yarnSet 2 = .ok (.iload_n 1, 1) := by decide +kernel
theorem dX11_yarnSet_3 : decode cX11_yarnSet 3 = .ok (.iconst 0, 1) := by decide +kernel
theorem dX11_yarnSet_4 : decode cX11_yarnSet 4 = .ok (.invokevirtual 62, 3) := by decide +kernel
theorem dX11_yarnSet_7 : decode cX11_yarnSet 7 = .ok (.ishl, 1) := by decide +kernel
theorem dX11_yarnSet_8 : decode cX11_yarnSet 8 = .ok (.iconst 1, 1) := by decide +kernel
theorem dX11_yarnSet_9 : decode cX11_yarnSet 9 = .ok (.aload_n 0, 1) := by decide +kernel
theorem dX11_yarnSet_10 : decode cX11_yarnSet 10 = .ok (.iload_n 1, 1) := by decide +kernel
theorem dX11_yarnSet_11 : decode cX11_yarnSet 11 = .ok (.iconst 1, 1) := by decide +kernel
theorem dX11_yarnSet_12 : decode cX11_yarnSet 12 = .ok (.invokevirtual 62, 3) := by decide +kernel
theorem dX11_yarnSet_15 : decode cX11_yarnSet 15 = .ok (.ishl, 1) := by decide +kernel
theorem dX11_yarnSet_16 : decode cX11_yarnSet 16 = .ok (.ior, 1) := by decide +kernel
theorem dX11_yarnSet_17 : decode cX11_yarnSet 17 = .ok (.iconst 1, 1) := by decide +kernel
theorem dX11_yarnSet_18 : decode cX11_yarnSet 18 = .ok (.aload_n 0, 1) := by decide +kernel
theorem dX11_yarnSet_19 : decode cX11_yarnSet 19 = .ok (.iload_n 1, 1) := by decide +kernel
theorem dX11_yarnSet_20 : decode cX11_yarnSet 20 = .ok (.iconst 2, 1) := by decide +kernel
theorem dX11_yarnSet_21 : decode cX11_yarnSet 21 = .ok (.invokevirtual 62, 3) := by decide +kernel
theorem dX11_yarnSet_24 : decode cX11_yarnSet 24 = .ok (.ishl, 1) := by decide +kernel
theorem dX11_yarnSet_25 : decode cX11_yarnSet 25 = .ok (.ior, 1) := by decide +kernel
theorem dX11_yarnSet_26 : decode cX11_yarnSet 26 = .ok (.ireturn, 1) := by decide +kernel
def rm_X11_yarnSet : Room := { frames := 2, cells := 0, slots := 0, locals := 43 }
def f_X11_yarnSet (τ : gτ) (x0 : Nat) (x1 : Int32) (G : gG) : Option (Int32) :=
  (f_X11_of τ x0 x1 (0 : Int32) G).bind fun v1 =>
  (f_X11_of τ x0 x1 (1 : Int32) G).bind fun v2 =>
  (f_X11_of τ x0 x1 (2 : Int32) G).bind fun v3 =>
  some ((((1 : Int32) <<< (v1 &&& 31)) ||| ((1 : Int32) <<< (v2 &&& 31))) ||| ((1 : Int32) <<< (v3 &&& 31)))
set_option maxHeartbeats 4000000 in
set_option maxRecDepth 100000 in
theorem c_X11_yarnSet (l : Launch) (X : gX) (τ : gτ) (x0 : Nat) (x1 : Int32) (G : gG) (h0 : gK τ x0 11) {r : Int32}  (h : f_X11_yarnSet τ x0 x1 G = some r) : gM l X τ yX11_yarnSet cX11_yarnSet 2 (some .int) rm_X11_yarnSet [.ref x0, .int x1] G (some (.int r)) G := by
  refine g_body (by decide +kernel) (Nat.le_of_ble_eq_true rfl) ?_
  intro p e s m args below meth c ls fx hr hw hl
  have fx : gFx X p s m args meth c cX11_yarnSet 2 RX11 := fx
  have hl : lv_has ls 2 [(0, .ref x0), (1, .int x1)] := hl
  have hok : gOk (f_X11_yarnSet τ x0 x1 G) (fun q => q = r) := ⟨_, h, rfl⟩
  unfold f_X11_yarnSet at hok
  show W p l e rm_X11_yarnSet s m args below meth c s.heap [] 0 0 (MQ below (gQ X τ (some (.int r)) G) args s 0 0 (gFree X)) _
  refine lv_iconst (v := 1) fx.1 fx.2.1 dX11_yarnSet_0 (by decide) ?_
  refine lv_aload_n fx.1 fx.2.1 dX11_yarnSet_1 rfl (lv_at hl 0 rfl) ?_
  refine lv_iload_n fx.1 fx.2.1 dX11_yarnSet_2 rfl (lv_at hl 1 rfl) ?_
  refine lv_iconst (v := 0) fx.1 fx.2.1 dX11_yarnSet_3 (by decide) ?_
  obtain ⟨v1, hf, hok⟩ := gOk_bind hok
  refine g_callV0 (κ := 11) fx hw (c_X11_of l X τ x0 x1 (0 : Int32) G h0 hf) lv_RX11_62 ⟨rfl, rfl⟩ rfl rfl h0 rfl hl.1 rfl ⟨Nat.le_of_ble_eq_true rfl, Nat.le_of_ble_eq_true rfl⟩ (Nat.le_of_ble_eq_true rfl) ⟨Nat.le_of_ble_eq_true rfl, Nat.le_of_ble_eq_true rfl⟩ dX11_yarnSet_4 (fun H locs hw => ?_)
  refine lv_ishl fx.1 fx.2.1 dX11_yarnSet_7 ?_
  refine lv_iconst (v := 1) fx.1 fx.2.1 dX11_yarnSet_8 (by decide) ?_
  refine lv_aload_n fx.1 fx.2.1 dX11_yarnSet_9 rfl (lv_at hl 0 rfl) ?_
  refine lv_iload_n fx.1 fx.2.1 dX11_yarnSet_10 rfl (lv_at hl 1 rfl) ?_
  refine lv_iconst (v := 1) fx.1 fx.2.1 dX11_yarnSet_11 (by decide) ?_
  obtain ⟨v2, hf, hok⟩ := gOk_bind hok
  refine g_callV0 (κ := 11) fx hw (c_X11_of l X τ x0 x1 (1 : Int32) G h0 hf) lv_RX11_62 ⟨rfl, rfl⟩ rfl rfl h0 rfl hl.1 rfl ⟨Nat.le_of_ble_eq_true rfl, Nat.le_of_ble_eq_true rfl⟩ (Nat.le_of_ble_eq_true rfl) ⟨Nat.le_of_ble_eq_true rfl, Nat.le_of_ble_eq_true rfl⟩ dX11_yarnSet_12 (fun H locs hw => ?_)
  refine lv_ishl fx.1 fx.2.1 dX11_yarnSet_15 ?_
  refine lv_ior fx.1 fx.2.1 dX11_yarnSet_16 ?_
  refine lv_iconst (v := 1) fx.1 fx.2.1 dX11_yarnSet_17 (by decide) ?_
  refine lv_aload_n fx.1 fx.2.1 dX11_yarnSet_18 rfl (lv_at hl 0 rfl) ?_
  refine lv_iload_n fx.1 fx.2.1 dX11_yarnSet_19 rfl (lv_at hl 1 rfl) ?_
  refine lv_iconst (v := 2) fx.1 fx.2.1 dX11_yarnSet_20 (by decide) ?_
  obtain ⟨v3, hf, hok⟩ := gOk_bind hok
  refine g_callV0 (κ := 11) fx hw (c_X11_of l X τ x0 x1 (2 : Int32) G h0 hf) lv_RX11_62 ⟨rfl, rfl⟩ rfl rfl h0 rfl hl.1 rfl ⟨Nat.le_of_ble_eq_true rfl, Nat.le_of_ble_eq_true rfl⟩ (Nat.le_of_ble_eq_true rfl) ⟨Nat.le_of_ble_eq_true rfl, Nat.le_of_ble_eq_true rfl⟩ dX11_yarnSet_21 (fun H locs hw => ?_)
  refine lv_ishl fx.1 fx.2.1 dX11_yarnSet_24 ?_
  refine lv_ior fx.1 fx.2.1 dX11_yarnSet_25 ?_
  cases gOk_some hok
  exact g_iret fx hw hr dX11_yarnSet_26
theorem dX11_usesOf_0 : decode cX11_usesOf 0 = .ok (.iconst 0, 1) := by decide +kernel
theorem dX11_usesOf_1 : decode cX11_usesOf 1 = .ok (.istore_n 2, 1) := by decide +kernel
theorem dX11_usesOf_2 : decode cX11_usesOf 2 = .ok (.iconst 0, 1) := by decide +kernel
theorem dX11_usesOf_3 : decode cX11_usesOf 3 = .ok (.istore_n 3, 1) := by decide +kernel
theorem dX11_usesOf_4 : decode cX11_usesOf 4 = .ok (.iload_n 3, 1) := by decide +kernel
theorem dX11_usesOf_5 : decode cX11_usesOf 5 = .ok (.aload_n 0, 1) := by decide +kernel
theorem dX11_usesOf_6 : decode cX11_usesOf 6 = .ok (.invokevirtual 73, 3) := by decide +kernel
theorem dX11_usesOf_9 : decode cX11_usesOf 9 = .ok (.if_icmp .ge 31, 3) := by decide +kernel
theorem dX11_usesOf_12 : decode cX11_usesOf 12 = .ok (.iload_n 2, 1) := by decide +kernel
theorem dX11_usesOf_13 : decode cX11_usesOf 13 = .ok (.aload_n 0, 1) := by decide +kernel
theorem dX11_usesOf_14 : decode cX11_usesOf 14 = .ok (.iload_n 3, 1) := by decide +kernel
theorem dX11_usesOf_15 : decode cX11_usesOf 15 = .ok (.invokevirtual 309, 3) := by decide +kernel
theorem dX11_usesOf_18 : decode cX11_usesOf 18 = .ok (.iload_n 1, 1) := by decide +kernel
theorem dX11_usesOf_19 : decode cX11_usesOf 19 = .ok (.invokestatic 312, 3) := by decide +kernel
theorem dX11_usesOf_22 : decode cX11_usesOf 22 = .ok (.ifCond .eq 9, 3) := by decide +kernel
theorem dX11_usesOf_25 : decode cX11_usesOf 25 = .ok (.iconst 1, 1) := by decide +kernel
theorem dX11_usesOf_26 : decode cX11_usesOf 26 = .ok (.iload_n 3, 1) := by decide +kernel
theorem dX11_usesOf_27 : decode cX11_usesOf 27 = .ok (.ishl, 1) := by decide +kernel
theorem dX11_usesOf_28 : decode cX11_usesOf 28 = .ok (.goto 4, 3) := by decide +kernel
theorem dX11_usesOf_31 : decode cX11_usesOf 31 = .ok (.iconst 0, 1) := by decide +kernel
theorem dX11_usesOf_32 : decode cX11_usesOf 32 = .ok (.ior, 1) := by decide +kernel
theorem dX11_usesOf_33 : decode cX11_usesOf 33 = .ok (.istore_n 2, 1) := by decide +kernel
theorem dX11_usesOf_34 : decode cX11_usesOf 34 = .ok (.iinc 3 1, 3) := by decide +kernel
theorem dX11_usesOf_37 : decode cX11_usesOf 37 = .ok (.goto (-33), 3) := by decide +kernel
theorem dX11_usesOf_40 : decode cX11_usesOf 40 = .ok (.iload_n 2, 1) := by decide +kernel
theorem dX11_usesOf_41 : decode cX11_usesOf 41 = .ok (.ireturn, 1) := by decide +kernel
theorem lv_RX11_309 : gLv RX11 309 RX11 yX11_yarnSet cX11_yarnSet 2 (some .int) 1 := gLv_of (wA_t (wt8 (List.mem_of_getElem? (i := 18) (by decide +kernel))) (by decide +kernel)) (wA_t (wt8 (List.mem_of_getElem? (i := 20) (by decide +kernel))) (by decide +kernel)) (wA_of (List.mem_append_left _ (List.mem_map.mpr ⟨(⟨"YearRopeModel", "yarnSet", "(I)I"⟩, 20), wp5 (List.mem_of_getElem? (i := 15) (by decide +kernel)), rfl⟩)) (by decide +kernel)) (wA_t (wt1 (List.mem_of_getElem? (i := 12) (by decide +kernel))) (by decide +kernel)) (wA_t (wt8 (List.mem_of_getElem? (i := 21) (by decide +kernel))) (by decide +kernel)) ⟨rfl, by decide +kernel, by decide +kernel, by decide +kernel⟩
theorem ls_RX11_312 : gLs RX11 312 yX11_has cX11_has 2 (some .boolean) 2 := gLs_of (wA_t (wt8 (List.mem_of_getElem? (i := 22) (by decide +kernel))) (by decide +kernel)) (wA_t (wt8 (List.mem_of_getElem? (i := 23) (by decide +kernel))) (by decide +kernel)) (wA_t (wt1 (List.mem_of_getElem? (i := 12) (by decide +kernel))) (by decide +kernel)) (wA_t (wt8 (List.mem_of_getElem? (i := 24) (by decide +kernel))) (by decide +kernel)) ⟨by decide +kernel, by decide +kernel, by decide +kernel⟩
def rm_X11_usesOf : Room := { frames := 3, cells := 0, slots := 0, locals := 64 }
def k_X11_usesOf_32 (τ : gτ) (n : Nat) (x0 : Nat) (x1 : Int32) (x3 : Int32) (s0 : Int32) (s1 : Int32) (G : gG) : Option ((Int32 × Int32) ⊕ ((Int32))) :=
  gLet (s0 ||| s1) fun v4 =>
  gLet (x3 + 1) fun v5 =>
  some (.inl (v4, v5))
def b_X11_usesOf_4 (τ : gτ) (n : Nat) (x0 : Nat) (x1 : Int32) (x2 : Int32) (x3 : Int32) (G : gG) : Option ((Int32 × Int32) ⊕ ((Int32))) :=
  (f_X11_ropes τ x0 G).bind fun v1 =>
  if v1 ≤ x3 then (some (.inr x2))
  else ((f_X11_yarnSet τ x0 x3 G).bind fun v2 =>
  (f_X11_has v2 x1).bind fun v3 =>
  if v3 = 0 then (k_X11_usesOf_32 τ n x0 x1 x3 x2 (0 : Int32) G)
  else (k_X11_usesOf_32 τ n x0 x1 x3 x2 ((1 : Int32) <<< (x3 &&& 31)) G))
def l_X11_usesOf_4 (τ : gτ) (n : Nat) (x0 : Nat) (x1 : Int32) (x2 : Int32) (x3 : Int32) (G : gG) : Option ((Int32)) :=
  gIter (fun (q : Int32 × Int32) => b_X11_usesOf_4 τ n x0 x1 q.1 q.2 G) n (x2, x3)
def f_X11_usesOf (τ : gτ) (n : Nat) (x0 : Nat) (x1 : Int32) (G : gG) : Option (Int32) :=
  (l_X11_usesOf_4 τ n x0 x1 (0 : Int32) (0 : Int32) G).bind fun q => gLet q fun z6 => 
  some (z6)
set_option maxHeartbeats 4000000 in
set_option maxRecDepth 100000 in
theorem w_X11_usesOf_32 {X : gX} {τ : gτ} {p : Program} {l : Launch} {e : Env} {s : State} {m : MethodId} {args : Array Value} {below : List Frame} {meth : Method} {c : Code} (fx : gFx X p s m args meth c cX11_usesOf 4 RX11) (n : Nat) (x0 : Nat) (x1 : Int32) (x3 : Int32) (s0 : Int32) (s1 : Int32) (h0 : gK τ x0 11)  {Q : State → Prop} {K : ((Int32 × Int32) ⊕ ((Int32))) → Prop} {G : gG} {H : Heap} {locs : List Loc} {ls : Array Slot} (hw : gHw X τ G H locs) (hl : lv_has ls 4 [(0, .ref x0), (1, .int x1), (3, .int x3)]) (hok : gOk (k_X11_usesOf_32 τ n x0 x1 x3 s0 s1 G) K) (hc : ∀ (y2 : Int32) (y3 : Int32) (H : Heap) (locs : List Loc) (ls : Array Slot), gHw X τ G H locs → lv_has ls 4 [(0, .ref x0), (1, .int x1), (2, .int y2), (3, .int y3)] → K (.inl (y2, y3)) → W p l e rm_X11_usesOf s m args below meth c H locs 0 0 Q (F0 m 4 ls [])) (hx0 : ∀ (y2 : Int32) (H : Heap) (locs : List Loc) (ls : Array Slot), gHw X τ G H locs → lv_has ls 4 [(2, .int y2)] → K (.inr y2) → W p l e rm_X11_usesOf s m args below meth c H locs 0 0 Q (F0 m 40 ls [])) : W p l e rm_X11_usesOf s m args below meth c H locs 0 0 Q (F0 m 32 ls [.int s1, .int s0]) := by
  unfold k_X11_usesOf_32 at hok
  refine lv_ior fx.1 fx.2.1 dX11_usesOf_32 ?_
  refine g_leti hok (fun v4 hok => ?_)
  refine lv_istore_n (lv' := [(2, .int v4), (0, .ref x0), (1, .int x1), (3, .int x3)]) fx.1 fx.2.1 dX11_usesOf_33 rfl hl (by decide) rfl (fun ls hl => ?_)
  obtain ⟨v5, e_v5, hok⟩ := gOk_let hok
  refine lv_iinc (v := v5) (lv' := [(3, .int v5), (2, .int v4), (0, .ref x0), (1, .int x1)]) fx.1 fx.2.1 dX11_usesOf_34 hl (k := 3) rfl (by rw [e_v5]; rfl) (by decide) rfl (fun ls hl => ?_)
  refine lv_goto (tgt := 4) fx.1 fx.2.1 dX11_usesOf_37 (by decide) ?_
  exact hc v4 v5  _ _ _  hw (lv_sub hl [2, 3, 1, 0] rfl) (gOk_some hok)
set_option maxHeartbeats 4000000 in
set_option maxRecDepth 100000 in
theorem w_b_X11_usesOf_4 {X : gX} {τ : gτ} {p : Program} {l : Launch} {e : Env} {s : State} {m : MethodId} {args : Array Value} {below : List Frame} {meth : Method} {c : Code} (fx : gFx X p s m args meth c cX11_usesOf 4 RX11) (n : Nat) (x0 : Nat) (x1 : Int32) (x2 : Int32) (x3 : Int32) (h0 : gK τ x0 11) {Q : State → Prop} {K : ((Int32 × Int32) ⊕ ((Int32))) → Prop} {G : gG} {H : Heap} {locs : List Loc} {ls : Array Slot} (hw : gHw X τ G H locs) (hl : lv_has ls 4 [(0, .ref x0), (1, .int x1), (2, .int x2), (3, .int x3)]) (hok : gOk (b_X11_usesOf_4 τ n x0 x1 x2 x3 G) K) (hc : ∀ (y2 : Int32) (y3 : Int32) (H : Heap) (locs : List Loc) (ls : Array Slot), gHw X τ G H locs → lv_has ls 4 [(0, .ref x0), (1, .int x1), (2, .int y2), (3, .int y3)] → K (.inl (y2, y3)) → W p l e rm_X11_usesOf s m args below meth c H locs 0 0 Q (F0 m 4 ls [])) (hx0 : ∀ (y2 : Int32) (H : Heap) (locs : List Loc) (ls : Array Slot), gHw X τ G H locs → lv_has ls 4 [(2, .int y2)] → K (.inr y2) → W p l e rm_X11_usesOf s m args below meth c H locs 0 0 Q (F0 m 40 ls [])) : W p l e rm_X11_usesOf s m args below meth c H locs 0 0 Q (F0 m 4 ls []) := by
  unfold b_X11_usesOf_4 at hok
  refine lv_iload_n fx.1 fx.2.1 dX11_usesOf_4 rfl (lv_at hl 3 rfl) ?_
  refine lv_aload_n fx.1 fx.2.1 dX11_usesOf_5 rfl (lv_at hl 0 rfl) ?_
  obtain ⟨v1, hf, hok⟩ := gOk_bind hok
  refine g_callV0 (κ := 11) fx hw (c_X11_ropes l X τ x0 G h0 hf) lv_RX11_73 ⟨rfl, rfl⟩ rfl rfl h0 rfl hl.1 rfl ⟨Nat.le_of_ble_eq_true rfl, Nat.le_of_ble_eq_true rfl⟩ (Nat.le_of_ble_eq_true rfl) ⟨Nat.le_of_ble_eq_true rfl, Nat.le_of_ble_eq_true rfl⟩ dX11_usesOf_6 (fun H locs hw => ?_)
  refine g_icmp_ge (tgt := 40) fx dX11_usesOf_9 (by decide) hok (fun hok => ?_) (fun hok => ?_)
  · exact hx0 x2  _ _ _  hw (lv_sub hl [2] rfl) (gOk_some hok)
  · refine lv_iload_n fx.1 fx.2.1 dX11_usesOf_12 rfl (lv_at hl 2 rfl) ?_
    refine lv_aload_n fx.1 fx.2.1 dX11_usesOf_13 rfl (lv_at hl 0 rfl) ?_
    refine lv_iload_n fx.1 fx.2.1 dX11_usesOf_14 rfl (lv_at hl 3 rfl) ?_
    obtain ⟨v2, hf, hok⟩ := gOk_bind hok
    refine g_callV0 (κ := 11) fx hw (c_X11_yarnSet l X τ x0 x3 G h0 hf) lv_RX11_309 ⟨rfl, rfl⟩ rfl rfl h0 rfl hl.1 rfl ⟨Nat.le_of_ble_eq_true rfl, Nat.le_of_ble_eq_true rfl⟩ (Nat.le_of_ble_eq_true rfl) ⟨Nat.le_of_ble_eq_true rfl, Nat.le_of_ble_eq_true rfl⟩ dX11_usesOf_15 (fun H locs hw => ?_)
    refine lv_iload_n fx.1 fx.2.1 dX11_usesOf_18 rfl (lv_at hl 1 rfl) ?_
    obtain ⟨v3, hf, hok⟩ := gOk_bind hok
    refine g_callS0 fx hw (c_X11_has l X τ v2 x1 G  hf) ls_RX11_312 ⟨rfl, rfl⟩ rfl hl.1 rfl ⟨Nat.le_of_ble_eq_true rfl, Nat.le_of_ble_eq_true rfl⟩ (Nat.le_of_ble_eq_true rfl) ⟨Nat.le_of_ble_eq_true rfl, Nat.le_of_ble_eq_true rfl⟩ dX11_usesOf_19 (fun H locs hw => ?_)
    refine g_if_eq (tgt := 31) fx dX11_usesOf_22 (by decide) hok (fun hok => ?_) (fun hok => ?_)
    · refine lv_iconst (v := 0) fx.1 fx.2.1 dX11_usesOf_31 (by decide) ?_
      exact w_X11_usesOf_32 fx n x0 x1 x3 x2 (0 : Int32) h0  hw (lv_sub hl [0, 1, 3] rfl) hok hc hx0
    · refine lv_iconst (v := 1) fx.1 fx.2.1 dX11_usesOf_25 (by decide) ?_
      refine lv_iload_n fx.1 fx.2.1 dX11_usesOf_26 rfl (lv_at hl 3 rfl) ?_
      refine lv_ishl fx.1 fx.2.1 dX11_usesOf_27 ?_
      refine lv_goto (tgt := 32) fx.1 fx.2.1 dX11_usesOf_28 (by decide) ?_
      exact w_X11_usesOf_32 fx n x0 x1 x3 x2 ((1 : Int32) <<< (x3 &&& 31)) h0  hw (lv_sub hl [0, 1, 3] rfl) hok hc hx0
theorem w_l_X11_usesOf_4 {X : gX} {τ : gτ} {p : Program} {l : Launch} {e : Env} {s : State} {m : MethodId} {args : Array Value} {below : List Frame} {meth : Method} {c : Code} (fx : gFx X p s m args meth c cX11_usesOf 4 RX11) (n : Nat) (x0 : Nat) (x1 : Int32) (h0 : gK τ x0 11) (G : gG) {Q : State → Prop} {K : ((Int32)) → Prop} (hx0 : ∀ (y2 : Int32) (H : Heap) (locs : List Loc) (ls : Array Slot), gHw X τ G H locs → lv_has ls 4 [(2, .int y2)] → K y2 → W p l e rm_X11_usesOf s m args below meth c H locs 0 0 Q (F0 m 40 ls [])) : ∀ (k : Nat) (x2 : Int32) (x3 : Int32) (H : Heap) (locs : List Loc) (ls : Array Slot), gHw X τ G H locs → lv_has ls 4 [(0, .ref x0), (1, .int x1), (2, .int x2), (3, .int x3)] → gOk (gIter (fun (q : Int32 × Int32) => b_X11_usesOf_4 τ n x0 x1 q.1 q.2 G) k (x2, x3)) K → W p l e rm_X11_usesOf s m args below meth c H locs 0 0 Q (F0 m 4 ls []) := by
  intro k
  induction k with
  | zero =>
    intro x2 x3  H locs ls hw hl hok
    exact gOk_iter0 hok
  | succ k hc =>
    intro x2 x3  H locs ls hw hl hok
    exact w_b_X11_usesOf_4 fx n x0 x1 x2 x3 h0 hw hl (gOk_iter hok) hc hx0
set_option maxHeartbeats 4000000 in
set_option maxRecDepth 100000 in
theorem c_X11_usesOf (l : Launch) (X : gX) (τ : gτ) (n : Nat) (x0 : Nat) (x1 : Int32) (G : gG) (h0 : gK τ x0 11) {r : Int32}  (h : f_X11_usesOf τ n x0 x1 G = some r) : gM l X τ yX11_usesOf cX11_usesOf 4 (some .int) rm_X11_usesOf [.ref x0, .int x1] G (some (.int r)) G := by
  refine g_body (by decide +kernel) (Nat.le_of_ble_eq_true rfl) ?_
  intro p e s m args below meth c ls fx hr hw hl
  have fx : gFx X p s m args meth c cX11_usesOf 4 RX11 := fx
  have hl : lv_has ls 4 [(0, .ref x0), (1, .int x1)] := hl
  have hok : gOk (f_X11_usesOf τ n x0 x1 G) (fun q => q = r) := ⟨_, h, rfl⟩
  unfold f_X11_usesOf at hok
  show W p l e rm_X11_usesOf s m args below meth c s.heap [] 0 0 (MQ below (gQ X τ (some (.int r)) G) args s 0 0 (gFree X)) _
  refine lv_iconst (v := 0) fx.1 fx.2.1 dX11_usesOf_0 (by decide) ?_
  refine lv_istore_n (lv' := [(2, .int (0 : Int32)), (0, .ref x0), (1, .int x1)]) fx.1 fx.2.1 dX11_usesOf_1 rfl hl (by decide) rfl (fun ls hl => ?_)
  refine lv_iconst (v := 0) fx.1 fx.2.1 dX11_usesOf_2 (by decide) ?_
  refine lv_istore_n (lv' := [(3, .int (0 : Int32)), (2, .int (0 : Int32)), (0, .ref x0), (1, .int x1)]) fx.1 fx.2.1 dX11_usesOf_3 rfl hl (by decide) rfl (fun ls hl => ?_)
  refine w_l_X11_usesOf_4 fx n x0 x1 h0 G ?_ n (0 : Int32) (0 : Int32)  _ _ _  hw (lv_sub hl [2, 3, 1, 0] rfl) (gOk_bindK hok)
  intro z6  H locs ls hw hl hok
  have hok : gOk (ρ := Int32) (some (z6)) _ := hok
  refine lv_iload_n fx.1 fx.2.1 dX11_usesOf_40 rfl (lv_at hl 0 rfl) ?_
  cases gOk_some hok
  exact g_iret fx hw hr dX11_usesOf_41
theorem dX11_sameAs_0 : decode cX11_sameAs 0 = .ok (.iconst 0, 1) := by decide +kernel
theorem dX11_sameAs_1 : decode cX11_sameAs 1 = .ok (.istore_n 2, 1) := by decide +kernel
theorem dX11_sameAs_2 : decode cX11_sameAs 2 = .ok (.iconst 0, 1) := by decide +kernel
theorem dX11_sameAs_3 : decode cX11_sameAs 3 = .ok (.istore_n 3, 1) := by decide +kernel
theorem dX11_sameAs_4 : decode cX11_sameAs 4 = .ok (.iload_n 3, 1) := by decide +kernel
theorem dX11_sameAs_5 : decode cX11_sameAs 5 = .ok (.aload_n 0, 1) := by decide +kernel
theorem dX11_sameAs_6 : decode cX11_sameAs 6 = .ok (.invokevirtual 73, 3) := by decide +kernel
theorem dX11_sameAs_9 : decode cX11_sameAs 9 = .ok (.if_icmp .ge 37, 3) := by decide +kernel
theorem dX11_sameAs_12 : decode cX11_sameAs 12 = .ok (.iload_n 2, 1) := by decide +kernel
theorem dX11_sameAs_13 : decode cX11_sameAs 13 = .ok (.iload_n 3, 1) := by decide +kernel
theorem dX11_sameAs_14 : decode cX11_sameAs 14 = .ok (.iload_n 1, 1) := by decide +kernel
theorem dX11_sameAs_15 : decode cX11_sameAs 15 = .ok (.if_icmp .eq 22, 3) := by decide +kernel
theorem dX11_sameAs_18 : decode cX11_sameAs 18 = .ok (.aload_n 0, 1) := by decide +kernel
theorem dX11_sameAs_19 : decode cX11_sameAs 19 = .ok (.iload_n 3, 1) := by decide +kernel
theorem dX11_sameAs_20 : decode cX11_sameAs 20 = .ok (.invokevirtual 309, 3) := by decide +kernel
theorem dX11_sameAs_23 : decode cX11_sameAs 23 = .ok (.aload_n 0, 1) := by decide +kernel
theorem dX11_sameAs_24 : decode cX11_sameAs 24 = .ok (.iload_n 1, 1) := by decide +kernel
theorem dX11_sameAs_25 : decode cX11_sameAs 25 = .ok (.invokevirtual 309, 3) := by decide +kernel
theorem dX11_sameAs_28 : decode cX11_sameAs 28 = .ok (.if_icmp .ne 9, 3) := by decide +kernel
theorem dX11_sameAs_31 : decode cX11_sameAs 31 = .ok (.iconst 1, 1) := by decide +kernel
theorem dX11_sameAs_32 : decode cX11_sameAs 32 = .ok (.iload_n 3, 1) := by decide +kernel
theorem dX11_sameAs_33 : decode cX11_sameAs 33 = .ok (.ishl, 1) := by decide +kernel
theorem dX11_sameAs_34 : decode cX11_sameAs 34 = .ok (.goto 4, 3) := by decide +kernel
theorem dX11_sameAs_37 : decode cX11_sameAs 37 = .ok (.iconst 0, 1) := by decide +kernel
theorem dX11_sameAs_38 : decode cX11_sameAs 38 = .ok (.ior, 1) := by decide +kernel
theorem dX11_sameAs_39 : decode cX11_sameAs 39 = .ok (.istore_n 2, 1) := by decide +kernel
theorem dX11_sameAs_40 : decode cX11_sameAs 40 = .ok (.iinc 3 1, 3) := by decide +kernel
theorem dX11_sameAs_43 : decode cX11_sameAs 43 = .ok (.goto (-39), 3) := by decide +kernel
theorem dX11_sameAs_46 : decode cX11_sameAs 46 = .ok (.iload_n 2, 1) := by decide +kernel
theorem dX11_sameAs_47 : decode cX11_sameAs 47 = .ok (.ireturn, 1) := by decide +kernel
def rm_X11_sameAs : Room := { frames := 3, cells := 0, slots := 0, locals := 64 }
def k_X11_sameAs_38 (τ : gτ) (n : Nat) (x0 : Nat) (x1 : Int32) (x3 : Int32) (s0 : Int32) (s1 : Int32) (G : gG) : Option ((Int32 × Int32) ⊕ ((Int32))) :=
  gLet (s0 ||| s1) fun v2 =>
  gLet (x3 + 1) fun v3 =>
  some (.inl (v2, v3))
def k_X11_sameAs_37 (τ : gτ) (n : Nat) (x0 : Nat) (x1 : Int32) (x3 : Int32) (s0 : Int32) (G : gG) : Option ((Int32 × Int32) ⊕ ((Int32))) :=
  k_X11_sameAs_38 τ n x0 x1 x3 s0 (0 : Int32) G
def b_X11_sameAs_4 (τ : gτ) (n : Nat) (x0 : Nat) (x1 : Int32) (x2 : Int32) (x3 : Int32) (G : gG) : Option ((Int32 × Int32) ⊕ ((Int32))) :=
  (f_X11_ropes τ x0 G).bind fun v1 =>
  if v1 ≤ x3 then (some (.inr x2))
  else (if x3 = x1 then (k_X11_sameAs_37 τ n x0 x1 x3 x2 G)
  else ((f_X11_yarnSet τ x0 x3 G).bind fun v4 =>
  (f_X11_yarnSet τ x0 x1 G).bind fun v5 =>
  if v4 = v5 then (k_X11_sameAs_38 τ n x0 x1 x3 x2 ((1 : Int32) <<< (x3 &&& 31)) G)
  else (k_X11_sameAs_37 τ n x0 x1 x3 x2 G)))
def l_X11_sameAs_4 (τ : gτ) (n : Nat) (x0 : Nat) (x1 : Int32) (x2 : Int32) (x3 : Int32) (G : gG) : Option ((Int32)) :=
  gIter (fun (q : Int32 × Int32) => b_X11_sameAs_4 τ n x0 x1 q.1 q.2 G) n (x2, x3)
def f_X11_sameAs (τ : gτ) (n : Nat) (x0 : Nat) (x1 : Int32) (G : gG) : Option (Int32) :=
  (l_X11_sameAs_4 τ n x0 x1 (0 : Int32) (0 : Int32) G).bind fun q => gLet q fun z6 => 
  some (z6)
set_option maxHeartbeats 4000000 in
set_option maxRecDepth 100000 in
theorem w_X11_sameAs_38 {X : gX} {τ : gτ} {p : Program} {l : Launch} {e : Env} {s : State} {m : MethodId} {args : Array Value} {below : List Frame} {meth : Method} {c : Code} (fx : gFx X p s m args meth c cX11_sameAs 4 RX11) (n : Nat) (x0 : Nat) (x1 : Int32) (x3 : Int32) (s0 : Int32) (s1 : Int32) (h0 : gK τ x0 11)  {Q : State → Prop} {K : ((Int32 × Int32) ⊕ ((Int32))) → Prop} {G : gG} {H : Heap} {locs : List Loc} {ls : Array Slot} (hw : gHw X τ G H locs) (hl : lv_has ls 4 [(0, .ref x0), (1, .int x1), (3, .int x3)]) (hok : gOk (k_X11_sameAs_38 τ n x0 x1 x3 s0 s1 G) K) (hc : ∀ (y2 : Int32) (y3 : Int32) (H : Heap) (locs : List Loc) (ls : Array Slot), gHw X τ G H locs → lv_has ls 4 [(0, .ref x0), (1, .int x1), (2, .int y2), (3, .int y3)] → K (.inl (y2, y3)) → W p l e rm_X11_sameAs s m args below meth c H locs 0 0 Q (F0 m 4 ls [])) (hx0 : ∀ (y2 : Int32) (H : Heap) (locs : List Loc) (ls : Array Slot), gHw X τ G H locs → lv_has ls 4 [(2, .int y2)] → K (.inr y2) → W p l e rm_X11_sameAs s m args below meth c H locs 0 0 Q (F0 m 46 ls [])) : W p l e rm_X11_sameAs s m args below meth c H locs 0 0 Q (F0 m 38 ls [.int s1, .int s0]) := by
  unfold k_X11_sameAs_38 at hok
  refine lv_ior fx.1 fx.2.1 dX11_sameAs_38 ?_
  refine g_leti hok (fun v2 hok => ?_)
  refine lv_istore_n (lv' := [(2, .int v2), (0, .ref x0), (1, .int x1), (3, .int x3)]) fx.1 fx.2.1 dX11_sameAs_39 rfl hl (by decide) rfl (fun ls hl => ?_)
  obtain ⟨v3, e_v3, hok⟩ := gOk_let hok
  refine lv_iinc (v := v3) (lv' := [(3, .int v3), (2, .int v2), (0, .ref x0), (1, .int x1)]) fx.1 fx.2.1 dX11_sameAs_40 hl (k := 3) rfl (by rw [e_v3]; rfl) (by decide) rfl (fun ls hl => ?_)
  refine lv_goto (tgt := 4) fx.1 fx.2.1 dX11_sameAs_43 (by decide) ?_
  exact hc v2 v3  _ _ _  hw (lv_sub hl [2, 3, 1, 0] rfl) (gOk_some hok)
set_option maxHeartbeats 4000000 in
set_option maxRecDepth 100000 in
theorem w_X11_sameAs_37 {X : gX} {τ : gτ} {p : Program} {l : Launch} {e : Env} {s : State} {m : MethodId} {args : Array Value} {below : List Frame} {meth : Method} {c : Code} (fx : gFx X p s m args meth c cX11_sameAs 4 RX11) (n : Nat) (x0 : Nat) (x1 : Int32) (x3 : Int32) (s0 : Int32) (h0 : gK τ x0 11)  {Q : State → Prop} {K : ((Int32 × Int32) ⊕ ((Int32))) → Prop} {G : gG} {H : Heap} {locs : List Loc} {ls : Array Slot} (hw : gHw X τ G H locs) (hl : lv_has ls 4 [(0, .ref x0), (1, .int x1), (3, .int x3)]) (hok : gOk (k_X11_sameAs_37 τ n x0 x1 x3 s0 G) K) (hc : ∀ (y2 : Int32) (y3 : Int32) (H : Heap) (locs : List Loc) (ls : Array Slot), gHw X τ G H locs → lv_has ls 4 [(0, .ref x0), (1, .int x1), (2, .int y2), (3, .int y3)] → K (.inl (y2, y3)) → W p l e rm_X11_sameAs s m args below meth c H locs 0 0 Q (F0 m 4 ls [])) (hx0 : ∀ (y2 : Int32) (H : Heap) (locs : List Loc) (ls : Array Slot), gHw X τ G H locs → lv_has ls 4 [(2, .int y2)] → K (.inr y2) → W p l e rm_X11_sameAs s m args below meth c H locs 0 0 Q (F0 m 46 ls [])) : W p l e rm_X11_sameAs s m args below meth c H locs 0 0 Q (F0 m 37 ls [.int s0]) := by
  unfold k_X11_sameAs_37 at hok
  refine lv_iconst (v := 0) fx.1 fx.2.1 dX11_sameAs_37 (by decide) ?_
  exact w_X11_sameAs_38 fx n x0 x1 x3 s0 (0 : Int32) h0  hw (lv_sub hl [0, 1, 2] rfl) hok hc hx0
set_option maxHeartbeats 4000000 in
set_option maxRecDepth 100000 in
theorem w_b_X11_sameAs_4 {X : gX} {τ : gτ} {p : Program} {l : Launch} {e : Env} {s : State} {m : MethodId} {args : Array Value} {below : List Frame} {meth : Method} {c : Code} (fx : gFx X p s m args meth c cX11_sameAs 4 RX11) (n : Nat) (x0 : Nat) (x1 : Int32) (x2 : Int32) (x3 : Int32) (h0 : gK τ x0 11) {Q : State → Prop} {K : ((Int32 × Int32) ⊕ ((Int32))) → Prop} {G : gG} {H : Heap} {locs : List Loc} {ls : Array Slot} (hw : gHw X τ G H locs) (hl : lv_has ls 4 [(0, .ref x0), (1, .int x1), (2, .int x2), (3, .int x3)]) (hok : gOk (b_X11_sameAs_4 τ n x0 x1 x2 x3 G) K) (hc : ∀ (y2 : Int32) (y3 : Int32) (H : Heap) (locs : List Loc) (ls : Array Slot), gHw X τ G H locs → lv_has ls 4 [(0, .ref x0), (1, .int x1), (2, .int y2), (3, .int y3)] → K (.inl (y2, y3)) → W p l e rm_X11_sameAs s m args below meth c H locs 0 0 Q (F0 m 4 ls [])) (hx0 : ∀ (y2 : Int32) (H : Heap) (locs : List Loc) (ls : Array Slot), gHw X τ G H locs → lv_has ls 4 [(2, .int y2)] → K (.inr y2) → W p l e rm_X11_sameAs s m args below meth c H locs 0 0 Q (F0 m 46 ls [])) : W p l e rm_X11_sameAs s m args below meth c H locs 0 0 Q (F0 m 4 ls []) := by
  unfold b_X11_sameAs_4 at hok
  refine lv_iload_n fx.1 fx.2.1 dX11_sameAs_4 rfl (lv_at hl 3 rfl) ?_
  refine lv_aload_n fx.1 fx.2.1 dX11_sameAs_5 rfl (lv_at hl 0 rfl) ?_
  obtain ⟨v1, hf, hok⟩ := gOk_bind hok
  refine g_callV0 (κ := 11) fx hw (c_X11_ropes l X τ x0 G h0 hf) lv_RX11_73 ⟨rfl, rfl⟩ rfl rfl h0 rfl hl.1 rfl ⟨Nat.le_of_ble_eq_true rfl, Nat.le_of_ble_eq_true rfl⟩ (Nat.le_of_ble_eq_true rfl) ⟨Nat.le_of_ble_eq_true rfl, Nat.le_of_ble_eq_true rfl⟩ dX11_sameAs_6 (fun H locs hw => ?_)
  refine g_icmp_ge (tgt := 46) fx dX11_sameAs_9 (by decide) hok (fun hok => ?_) (fun hok => ?_)
  · exact hx0 x2  _ _ _  hw (lv_sub hl [2] rfl) (gOk_some hok)
  · refine lv_iload_n fx.1 fx.2.1 dX11_sameAs_12 rfl (lv_at hl 2 rfl) ?_
    refine lv_iload_n fx.1 fx.2.1 dX11_sameAs_13 rfl (lv_at hl 3 rfl) ?_
    refine lv_iload_n fx.1 fx.2.1 dX11_sameAs_14 rfl (lv_at hl 1 rfl) ?_
    refine g_icmp_eq (tgt := 37) fx dX11_sameAs_15 (by decide) hok (fun hok => ?_) (fun hok => ?_)
    · exact w_X11_sameAs_37 fx n x0 x1 x3 x2 h0  hw (lv_sub hl [0, 1, 3] rfl) hok hc hx0
    · refine lv_aload_n fx.1 fx.2.1 dX11_sameAs_18 rfl (lv_at hl 0 rfl) ?_
      refine lv_iload_n fx.1 fx.2.1 dX11_sameAs_19 rfl (lv_at hl 3 rfl) ?_
      obtain ⟨v4, hf, hok⟩ := gOk_bind hok
      refine g_callV0 (κ := 11) fx hw (c_X11_yarnSet l X τ x0 x3 G h0 hf) lv_RX11_309 ⟨rfl, rfl⟩ rfl rfl h0 rfl hl.1 rfl ⟨Nat.le_of_ble_eq_true rfl, Nat.le_of_ble_eq_true rfl⟩ (Nat.le_of_ble_eq_true rfl) ⟨Nat.le_of_ble_eq_true rfl, Nat.le_of_ble_eq_true rfl⟩ dX11_sameAs_20 (fun H locs hw => ?_)
      refine lv_aload_n fx.1 fx.2.1 dX11_sameAs_23 rfl (lv_at hl 0 rfl) ?_
      refine lv_iload_n fx.1 fx.2.1 dX11_sameAs_24 rfl (lv_at hl 1 rfl) ?_
      obtain ⟨v5, hf, hok⟩ := gOk_bind hok
      refine g_callV0 (κ := 11) fx hw (c_X11_yarnSet l X τ x0 x1 G h0 hf) lv_RX11_309 ⟨rfl, rfl⟩ rfl rfl h0 rfl hl.1 rfl ⟨Nat.le_of_ble_eq_true rfl, Nat.le_of_ble_eq_true rfl⟩ (Nat.le_of_ble_eq_true rfl) ⟨Nat.le_of_ble_eq_true rfl, Nat.le_of_ble_eq_true rfl⟩ dX11_sameAs_25 (fun H locs hw => ?_)
      refine g_icmp_ne (tgt := 37) fx dX11_sameAs_28 (by decide) hok (fun hok => ?_) (fun hok => ?_)
      · refine lv_iconst (v := 1) fx.1 fx.2.1 dX11_sameAs_31 (by decide) ?_
        refine lv_iload_n fx.1 fx.2.1 dX11_sameAs_32 rfl (lv_at hl 3 rfl) ?_
        refine lv_ishl fx.1 fx.2.1 dX11_sameAs_33 ?_
        refine lv_goto (tgt := 38) fx.1 fx.2.1 dX11_sameAs_34 (by decide) ?_
        exact w_X11_sameAs_38 fx n x0 x1 x3 x2 ((1 : Int32) <<< (x3 &&& 31)) h0  hw (lv_sub hl [0, 1, 3] rfl) hok hc hx0
      · exact w_X11_sameAs_37 fx n x0 x1 x3 x2 h0  hw (lv_sub hl [0, 1, 3] rfl) hok hc hx0
theorem w_l_X11_sameAs_4 {X : gX} {τ : gτ} {p : Program} {l : Launch} {e : Env} {s : State} {m : MethodId} {args : Array Value} {below : List Frame} {meth : Method} {c : Code} (fx : gFx X p s m args meth c cX11_sameAs 4 RX11) (n : Nat) (x0 : Nat) (x1 : Int32) (h0 : gK τ x0 11) (G : gG) {Q : State → Prop} {K : ((Int32)) → Prop} (hx0 : ∀ (y2 : Int32) (H : Heap) (locs : List Loc) (ls : Array Slot), gHw X τ G H locs → lv_has ls 4 [(2, .int y2)] → K y2 → W p l e rm_X11_sameAs s m args below meth c H locs 0 0 Q (F0 m 46 ls [])) : ∀ (k : Nat) (x2 : Int32) (x3 : Int32) (H : Heap) (locs : List Loc) (ls : Array Slot), gHw X τ G H locs → lv_has ls 4 [(0, .ref x0), (1, .int x1), (2, .int x2), (3, .int x3)] → gOk (gIter (fun (q : Int32 × Int32) => b_X11_sameAs_4 τ n x0 x1 q.1 q.2 G) k (x2, x3)) K → W p l e rm_X11_sameAs s m args below meth c H locs 0 0 Q (F0 m 4 ls []) := by
  intro k
  induction k with
  | zero =>
    intro x2 x3  H locs ls hw hl hok
    exact gOk_iter0 hok
  | succ k hc =>
    intro x2 x3  H locs ls hw hl hok
    exact w_b_X11_sameAs_4 fx n x0 x1 x2 x3 h0 hw hl (gOk_iter hok) hc hx0
set_option maxHeartbeats 4000000 in
set_option maxRecDepth 100000 in
theorem c_X11_sameAs (l : Launch) (X : gX) (τ : gτ) (n : Nat) (x0 : Nat) (x1 : Int32) (G : gG) (h0 : gK τ x0 11) {r : Int32}  (h : f_X11_sameAs τ n x0 x1 G = some r) : gM l X τ yX11_sameAs cX11_sameAs 4 (some .int) rm_X11_sameAs [.ref x0, .int x1] G (some (.int r)) G := by
  refine g_body (by decide +kernel) (Nat.le_of_ble_eq_true rfl) ?_
  intro p e s m args below meth c ls fx hr hw hl
  have fx : gFx X p s m args meth c cX11_sameAs 4 RX11 := fx
  have hl : lv_has ls 4 [(0, .ref x0), (1, .int x1)] := hl
  have hok : gOk (f_X11_sameAs τ n x0 x1 G) (fun q => q = r) := ⟨_, h, rfl⟩
  unfold f_X11_sameAs at hok
  show W p l e rm_X11_sameAs s m args below meth c s.heap [] 0 0 (MQ below (gQ X τ (some (.int r)) G) args s 0 0 (gFree X)) _
  refine lv_iconst (v := 0) fx.1 fx.2.1 dX11_sameAs_0 (by decide) ?_
  refine lv_istore_n (lv' := [(2, .int (0 : Int32)), (0, .ref x0), (1, .int x1)]) fx.1 fx.2.1 dX11_sameAs_1 rfl hl (by decide) rfl (fun ls hl => ?_)
  refine lv_iconst (v := 0) fx.1 fx.2.1 dX11_sameAs_2 (by decide) ?_
  refine lv_istore_n (lv' := [(3, .int (0 : Int32)), (2, .int (0 : Int32)), (0, .ref x0), (1, .int x1)]) fx.1 fx.2.1 dX11_sameAs_3 rfl hl (by decide) rfl (fun ls hl => ?_)
  refine w_l_X11_sameAs_4 fx n x0 x1 h0 G ?_ n (0 : Int32) (0 : Int32)  _ _ _  hw (lv_sub hl [2, 3, 1, 0] rfl) (gOk_bindK hok)
  intro z6  H locs ls hw hl hok
  have hok : gOk (ρ := Int32) (some (z6)) _ := hok
  refine lv_iload_n fx.1 fx.2.1 dX11_sameAs_46 rfl (lv_at hl 0 rfl) ?_
  cases gOk_some hok
  exact g_iret fx hw hr dX11_sameAs_47
theorem dX11_yarn_0 : decode cX11_yarn 0 = .ok (.aload_n 0, 1) := by decide +kernel
theorem dX11_yarn_1 : decode cX11_yarn 1 = .ok (.iconst 0, 1) := by decide +kernel
theorem dX11_yarn_2 : decode cX11_yarn 2 = .ok (.putfield 3, 3) := by decide +kernel
theorem dX11_yarn_5 : decode cX11_yarn 5 = .ok (.aload_n 0, 1) := by decide +kernel
theorem dX11_yarn_6 : decode cX11_yarn 6 = .ok (.aload_n 0, 1) := by decide +kernel
theorem dX11_yarn_7 : decode cX11_yarn 7 = .ok (.iload_n 1, 1) := by decide +kernel
theorem dX11_yarn_8 : decode cX11_yarn 8 = .ok (.invokevirtual 315, 3) := by decide +kernel
theorem dX11_yarn_11 : decode cX11_yarn 11 = .ok (.iconst 1, 1) := by decide +kernel
theorem dX11_yarn_12 : decode cX11_yarn 12 = .ok (.invokevirtual 263, 3) := by decide +kernel
theorem dX11_yarn_15 : decode cX11_yarn 15 = .ok (.ifCond .ne 25, 3) := by decide +kernel
theorem dX11_yarn_18 : decode cX11_yarn 18 = .ok (.aload_n 0, 1) := by decide +kernel
theorem dX11_yarn_19 : decode cX11_yarn 19 = .ok (.iload_n 2, 1) := by decide +kernel
theorem dX11_yarn_20 : decode cX11_yarn 20 = .ok (.iconst 0, 1) := by decide +kernel
theorem dX11_yarn_21 : decode cX11_yarn 21 = .ok (.iconst 5, 1) := by decide +kernel
theorem dX11_yarn_22 : decode cX11_yarn 22 = .ok (.invokestatic 69, 3) := by decide +kernel
theorem dX11_yarn_25 : decode cX11_yarn 25 = .ok (.ifCond .ne 7, 3) := by decide +kernel
theorem dX11_yarn_28 : decode cX11_yarn 28 = .ok (.iconst 1, 1) := by decide +kernel
theorem dX11_yarn_29 : decode cX11_yarn 29 = .ok (.goto 4, 3) := by decide +kernel
theorem dX11_yarn_32 : decode cX11_yarn 32 = .ok (.iconst 0, 1) := by decide +kernel
theorem dX11_yarn_33 : decode cX11_yarn 33 = .ok (.iconst 2, 1) := by decide +kernel
theorem dX11_yarn_34 : decode cX11_yarn 34 = .ok (.invokevirtual 263, 3) := by decide +kernel
theorem dX11_yarn_37 : decode cX11_yarn 37 = .ok (.ifCond .eq 5, 3) := by decide +kernel
theorem dX11_yarn_40 : decode cX11_yarn 40 = .ok (.iconst 0, 1) := by decide +kernel
theorem dX11_yarn_41 : decode cX11_yarn 41 = .ok (.ireturn, 1) := by decide +kernel
theorem dX11_yarn_42 : decode cX11_yarn 42 = .ok (.iload_n 2, 1) := by decide +kernel
theorem dX11_yarn_43 : decode cX11_yarn 43 = .ok (.iconst 4, 1) := by decide +kernel
theorem dX11_yarn_44 : decode cX11_yarn 44 = .ok (.if_icmp .ne 11, 3) := by decide +kernel
theorem dX11_yarn_47 : decode cX11_yarn 47 = .ok (.aload_n 0, 1) := by decide +kernel
theorem dX11_yarn_48 : decode cX11_yarn 48 = .ok (.iload_n 1, 1) := by decide +kernel
theorem dX11_yarn_49 : decode cX11_yarn 49 = .ok (.invokevirtual 306, 3) := by decide +kernel
theorem dX11_yarn_52 : decode cX11_yarn 52 = .ok (.goto 22, 3) := by decide +kernel
theorem dX11_yarn_55 : decode cX11_yarn 55 = .ok (.iload_n 2, 1) := by decide +kernel
theorem dX11_yarn_56 : decode cX11_yarn 56 = .ok (.iconst 5, 1) := by decide +kernel
theorem dX11_yarn_57 : decode cX11_yarn 57 = .ok (.if_icmp .ne 11, 3) := by decide +kernel
theorem dX11_yarn_60 : decode cX11_yarn 60 = .ok (.aload_n 0, 1) := by decide +kernel
theorem dX11_yarn_61 : decode cX11_yarn 61 = .ok (.iload_n 1, 1) := by decide +kernel
theorem dX11_yarn_62 : decode cX11_yarn 62 = .ok (.invokevirtual 318, 3) := by decide +kernel
theorem dX11_yarn_65 : decode cX11_yarn 65 = .ok (.goto 9, 3) := by decide +kernel
theorem dX11_yarn_68 : decode cX11_yarn 68 = .ok (.aload_n 0, 1) := by decide +kernel
theorem dX11_yarn_69 : decode cX11_yarn 69 = .ok (.iload_n 1, 1) := by decide +kernel
theorem dX11_yarn_70 : decode cX11_yarn 70 = .ok (.iload_n 2, 1) := by decide +kernel
theorem dX11_yarn_71 : decode cX11_yarn 71 = .ok (.invokevirtual 132, 3) := by decide +kernel
theorem dX11_yarn_74 : decode cX11_yarn 74 = .ok (.ireturn, 1) := by decide +kernel
theorem lv_RX11_315 : gLv RX11 315 RX11 yX11_noYarn cX11_noYarn 2 (some .boolean) 1 := gLv_of (wA_t (wt8 (List.mem_of_getElem? (i := 2) (by decide +kernel))) (by decide +kernel)) (wA_t (wt8 (List.mem_of_getElem? (i := 4) (by decide +kernel))) (by decide +kernel)) (wA_of (List.mem_append_left _ (List.mem_map.mpr ⟨(⟨"YearRopeModel", "noYarn", "(I)Z"⟩, 20), wp5 (List.mem_of_getElem? (i := 12) (by decide +kernel)), rfl⟩)) (by decide +kernel)) (wA_t (wt1 (List.mem_of_getElem? (i := 12) (by decide +kernel))) (by decide +kernel)) (wA_t (wt8 (List.mem_of_getElem? (i := 5) (by decide +kernel))) (by decide +kernel)) ⟨rfl, by decide +kernel, by decide +kernel, by decide +kernel⟩
theorem lv_RX11_263 : gLv RX11 263 RX11 yX11_throwsIf cX11_throwsIf 3 (some .boolean) 2 := gLv_of (wA_t (wt7 (List.mem_of_getElem? (i := 230) (by decide +kernel))) (by decide +kernel)) (wA_t (wt7 (List.mem_of_getElem? (i := 232) (by decide +kernel))) (by decide +kernel)) (wA_of (List.mem_append_left _ (List.mem_map.mpr ⟨(⟨"YearRopeModel", "throwsIf", "(ZI)Z"⟩, 20), wp5 (List.mem_of_getElem? (i := 11) (by decide +kernel)), rfl⟩)) (by decide +kernel)) (wA_t (wt1 (List.mem_of_getElem? (i := 12) (by decide +kernel))) (by decide +kernel)) (wA_t (wt7 (List.mem_of_getElem? (i := 233) (by decide +kernel))) (by decide +kernel)) ⟨rfl, by decide +kernel, by decide +kernel, by decide +kernel⟩
theorem lv_RX11_318 : gLv RX11 318 RX11 yX11_usesOf cX11_usesOf 4 (some .int) 1 := gLv_of (wA_t (wt8 (List.mem_of_getElem? (i := 14) (by decide +kernel))) (by decide +kernel)) (wA_t (wt8 (List.mem_of_getElem? (i := 16) (by decide +kernel))) (by decide +kernel)) (wA_of (List.mem_append_left _ (List.mem_map.mpr ⟨(⟨"YearRopeModel", "usesOf", "(I)I"⟩, 20), wp5 (List.mem_of_getElem? (i := 14) (by decide +kernel)), rfl⟩)) (by decide +kernel)) (wA_t (wt1 (List.mem_of_getElem? (i := 12) (by decide +kernel))) (by decide +kernel)) (wA_t (wt8 (List.mem_of_getElem? (i := 17) (by decide +kernel))) (by decide +kernel)) ⟨rfl, by decide +kernel, by decide +kernel, by decide +kernel⟩
def rm_X11_yarn : Room := { frames := 4, cells := 0, slots := 0, locals := 87 }
def k_X11_yarn_33 (τ : gτ) (n : Nat) (x0 : Nat) (x1 : Int32) (x2 : Int32) (s0 : Nat) (s1 : Int32) (G : gG) : Option (Int32 × gG) :=
  gBind2 (f_X11_throwsIf s0 s1 (2 : Int32) G) fun v6 G7 =>
  if v6 = 0 then (if x2 = (4 : Int32) then ((f_X11_priceOfYarn τ x0 x1 G7).bind fun v8 =>
  some (v8, G7))
  else (if x2 = (5 : Int32) then ((f_X11_usesOf τ n x0 x1 G7).bind fun v9 =>
  some (v9, G7))
  else ((f_X11_ofYarn τ x0 x1 x2 G7).bind fun v10 =>
  some (v10, G7))))
  else (some (0, G7))
def f_X11_yarn (τ : gτ) (n : Nat) (x0 : Nat) (x1 : Int32) (x2 : Int32) (G : gG) : Option (Int32 × gG) :=
  gLet (gsi G 11 0 x0 (0 : Int32)) fun G1 =>
  (f_X11_noYarn τ x0 x1 G1).bind fun v2 =>
  gBind2 (f_X11_throwsIf x0 v2 (1 : Int32) G1) fun v3 G4 =>
  if v3 = 0 then ((f_X11_in x2 (0 : Int32) (5 : Int32)).bind fun v5 =>
  if v5 = 0 then (k_X11_yarn_33 τ n x0 x1 x2 x0 (1 : Int32) G4)
  else (k_X11_yarn_33 τ n x0 x1 x2 x0 (0 : Int32) G4))
  else (some (0, G4))
set_option maxHeartbeats 4000000 in
set_option maxRecDepth 100000 in
theorem w_X11_yarn_33 {X : gX} {τ : gτ} {p : Program} {l : Launch} {e : Env} {s : State} {m : MethodId} {args : Array Value} {below : List Frame} {meth : Method} {c : Code} (fx : gFx X p s m args meth c cX11_yarn 3 RX11) (n : Nat) (x0 : Nat) (x1 : Int32) (x2 : Int32) (s0 : Nat) (s1 : Int32) (h0 : gK τ x0 11) (hs0 : gK τ s0 11) (hr : meth.sig.returnType = (some .int)) {r : Int32} {G' : gG} {G : gG} {H : Heap} {locs : List Loc} {ls : Array Slot} (hw : gHw X τ G H locs) (hl : lv_has ls 3 [(0, .ref x0), (1, .int x1), (2, .int x2)]) (hok : gOk (k_X11_yarn_33 τ n x0 x1 x2 s0 s1 G) (fun q => q = (r, G')))  : W p l e rm_X11_yarn s m args below meth c H locs 0 0 (MQ below (gQ X τ (some (.int r)) G') args s 0 0 (gFree X)) (F0 m 33 ls [.int s1, .ref s0]) := by
  unfold k_X11_yarn_33 at hok
  refine lv_iconst (v := 2) fx.1 fx.2.1 dX11_yarn_33 (by decide) ?_
  obtain ⟨v6, G7, hf, hok⟩ := gOk_bind2 hok
  refine g_callV0 (κ := 11) fx hw (c_X11_throwsIf l X τ s0 s1 (2 : Int32) G hs0 hf) lv_RX11_263 ⟨rfl, rfl⟩ rfl rfl hs0 rfl hl.1 rfl ⟨Nat.le_of_ble_eq_true rfl, Nat.le_of_ble_eq_true rfl⟩ (Nat.le_of_ble_eq_true rfl) ⟨Nat.le_of_ble_eq_true rfl, Nat.le_of_ble_eq_true rfl⟩ dX11_yarn_34 (fun H locs hw => ?_)
  refine g_if_eq (tgt := 42) fx dX11_yarn_37 (by decide) hok (fun hok => ?_) (fun hok => ?_)
  · refine lv_iload_n fx.1 fx.2.1 dX11_yarn_42 rfl (lv_at hl 2 rfl) ?_
    refine lv_iconst (v := 4) fx.1 fx.2.1 dX11_yarn_43 (by decide) ?_
    refine g_icmp_ne (tgt := 55) fx dX11_yarn_44 (by decide) hok (fun hok => ?_) (fun hok => ?_)
    · refine lv_aload_n fx.1 fx.2.1 dX11_yarn_47 rfl (lv_at hl 0 rfl) ?_
      refine lv_iload_n fx.1 fx.2.1 dX11_yarn_48 rfl (lv_at hl 1 rfl) ?_
      obtain ⟨v8, hf, hok⟩ := gOk_bind hok
      refine g_callV0 (κ := 11) fx hw (c_X11_priceOfYarn l X τ x0 x1 G7 h0 hf) lv_RX11_306 ⟨rfl, rfl⟩ rfl rfl h0 rfl hl.1 rfl ⟨Nat.le_of_ble_eq_true rfl, Nat.le_of_ble_eq_true rfl⟩ (Nat.le_of_ble_eq_true rfl) ⟨Nat.le_of_ble_eq_true rfl, Nat.le_of_ble_eq_true rfl⟩ dX11_yarn_49 (fun H locs hw => ?_)
      refine lv_goto (tgt := 74) fx.1 fx.2.1 dX11_yarn_52 (by decide) ?_
      cases gOk_some hok
      exact g_iret fx hw hr dX11_yarn_74
    · refine lv_iload_n fx.1 fx.2.1 dX11_yarn_55 rfl (lv_at hl 2 rfl) ?_
      refine lv_iconst (v := 5) fx.1 fx.2.1 dX11_yarn_56 (by decide) ?_
      refine g_icmp_ne (tgt := 68) fx dX11_yarn_57 (by decide) hok (fun hok => ?_) (fun hok => ?_)
      · refine lv_aload_n fx.1 fx.2.1 dX11_yarn_60 rfl (lv_at hl 0 rfl) ?_
        refine lv_iload_n fx.1 fx.2.1 dX11_yarn_61 rfl (lv_at hl 1 rfl) ?_
        obtain ⟨v9, hf, hok⟩ := gOk_bind hok
        refine g_callV0 (κ := 11) fx hw (c_X11_usesOf l X τ n x0 x1 G7 h0 hf) lv_RX11_318 ⟨rfl, rfl⟩ rfl rfl h0 rfl hl.1 rfl ⟨Nat.le_of_ble_eq_true rfl, Nat.le_of_ble_eq_true rfl⟩ (Nat.le_of_ble_eq_true rfl) ⟨Nat.le_of_ble_eq_true rfl, Nat.le_of_ble_eq_true rfl⟩ dX11_yarn_62 (fun H locs hw => ?_)
        refine lv_goto (tgt := 74) fx.1 fx.2.1 dX11_yarn_65 (by decide) ?_
        cases gOk_some hok
        exact g_iret fx hw hr dX11_yarn_74
      · refine lv_aload_n fx.1 fx.2.1 dX11_yarn_68 rfl (lv_at hl 0 rfl) ?_
        refine lv_iload_n fx.1 fx.2.1 dX11_yarn_69 rfl (lv_at hl 1 rfl) ?_
        refine lv_iload_n fx.1 fx.2.1 dX11_yarn_70 rfl (lv_at hl 2 rfl) ?_
        obtain ⟨v10, hf, hok⟩ := gOk_bind hok
        refine g_callV0 (κ := 11) fx hw (c_X11_ofYarn l X τ x0 x1 x2 G7 h0 hf) lv_RX11_132 ⟨rfl, rfl⟩ rfl rfl h0 rfl hl.1 rfl ⟨Nat.le_of_ble_eq_true rfl, Nat.le_of_ble_eq_true rfl⟩ (Nat.le_of_ble_eq_true rfl) ⟨Nat.le_of_ble_eq_true rfl, Nat.le_of_ble_eq_true rfl⟩ dX11_yarn_71 (fun H locs hw => ?_)
        cases gOk_some hok
        exact g_iret fx hw hr dX11_yarn_74
  · refine lv_iconst (v := 0) fx.1 fx.2.1 dX11_yarn_40 (by decide) ?_
    cases gOk_some hok
    exact g_iret fx hw hr dX11_yarn_41
set_option maxHeartbeats 4000000 in
set_option maxRecDepth 100000 in
theorem c_X11_yarn (l : Launch) (X : gX) (τ : gτ) (n : Nat) (x0 : Nat) (x1 : Int32) (x2 : Int32) (G : gG) (h0 : gK τ x0 11) {r : Int32} {G' : gG} (h : f_X11_yarn τ n x0 x1 x2 G = some (r, G')) : gM l X τ yX11_yarn cX11_yarn 3 (some .int) rm_X11_yarn [.ref x0, .int x1, .int x2] G (some (.int r)) G' := by
  refine g_body (by decide +kernel) (Nat.le_of_ble_eq_true rfl) ?_
  intro p e s m args below meth c ls fx hr hw hl
  have fx : gFx X p s m args meth c cX11_yarn 3 RX11 := fx
  have hl : lv_has ls 3 [(0, .ref x0), (1, .int x1), (2, .int x2)] := hl
  have hok : gOk (f_X11_yarn τ n x0 x1 x2 G) (fun q => q = (r, G')) := ⟨_, h, rfl⟩
  unfold f_X11_yarn at hok
  show W p l e rm_X11_yarn s m args below meth c s.heap [] 0 0 (MQ below (gQ X τ (some (.int r)) G') args s 0 0 (gFree X)) _
  refine lv_aload_n fx.1 fx.2.1 dX11_yarn_0 rfl (lv_at hl 0 rfl) ?_
  refine lv_iconst (v := 0) fx.1 fx.2.1 dX11_yarn_1 (by decide) ?_
  refine g_puti fx hw h0 lp_RX11_3 rfl rfl dX11_yarn_2 hok (fun G1 H locs hw hok => ?_)
  refine lv_aload_n fx.1 fx.2.1 dX11_yarn_5 rfl (lv_at hl 0 rfl) ?_
  refine lv_aload_n fx.1 fx.2.1 dX11_yarn_6 rfl (lv_at hl 0 rfl) ?_
  refine lv_iload_n fx.1 fx.2.1 dX11_yarn_7 rfl (lv_at hl 1 rfl) ?_
  obtain ⟨v2, hf, hok⟩ := gOk_bind hok
  refine g_callV0 (κ := 11) fx hw (c_X11_noYarn l X τ x0 x1 G1 h0 hf) lv_RX11_315 ⟨rfl, rfl⟩ rfl rfl h0 rfl hl.1 rfl ⟨Nat.le_of_ble_eq_true rfl, Nat.le_of_ble_eq_true rfl⟩ (Nat.le_of_ble_eq_true rfl) ⟨Nat.le_of_ble_eq_true rfl, Nat.le_of_ble_eq_true rfl⟩ dX11_yarn_8 (fun H locs hw => ?_)
  refine lv_iconst (v := 1) fx.1 fx.2.1 dX11_yarn_11 (by decide) ?_
  obtain ⟨v3, G4, hf, hok⟩ := gOk_bind2 hok
  refine g_callV0 (κ := 11) fx hw (c_X11_throwsIf l X τ x0 v2 (1 : Int32) G1 h0 hf) lv_RX11_263 ⟨rfl, rfl⟩ rfl rfl h0 rfl hl.1 rfl ⟨Nat.le_of_ble_eq_true rfl, Nat.le_of_ble_eq_true rfl⟩ (Nat.le_of_ble_eq_true rfl) ⟨Nat.le_of_ble_eq_true rfl, Nat.le_of_ble_eq_true rfl⟩ dX11_yarn_12 (fun H locs hw => ?_)
  refine g_if_ne (tgt := 40) fx dX11_yarn_15 (by decide) hok (fun hok => ?_) (fun hok => ?_)
  · refine lv_aload_n fx.1 fx.2.1 dX11_yarn_18 rfl (lv_at hl 0 rfl) ?_
    refine lv_iload_n fx.1 fx.2.1 dX11_yarn_19 rfl (lv_at hl 2 rfl) ?_
    refine lv_iconst (v := 0) fx.1 fx.2.1 dX11_yarn_20 (by decide) ?_
    refine lv_iconst (v := 5) fx.1 fx.2.1 dX11_yarn_21 (by decide) ?_
    obtain ⟨v5, hf, hok⟩ := gOk_bind hok
    refine g_callS0 fx hw (c_X11_in l X τ x2 (0 : Int32) (5 : Int32) G4  hf) ls_RX11_69 ⟨rfl, rfl⟩ rfl hl.1 rfl ⟨Nat.le_of_ble_eq_true rfl, Nat.le_of_ble_eq_true rfl⟩ (Nat.le_of_ble_eq_true rfl) ⟨Nat.le_of_ble_eq_true rfl, Nat.le_of_ble_eq_true rfl⟩ dX11_yarn_22 (fun H locs hw => ?_)
    refine g_if_ne (tgt := 32) fx dX11_yarn_25 (by decide) hok (fun hok => ?_) (fun hok => ?_)
    · refine lv_iconst (v := 1) fx.1 fx.2.1 dX11_yarn_28 (by decide) ?_
      refine lv_goto (tgt := 33) fx.1 fx.2.1 dX11_yarn_29 (by decide) ?_
      exact w_X11_yarn_33 fx n x0 x1 x2 x0 (1 : Int32) h0 h0 hr hw (lv_sub hl [0, 1, 2] rfl) hok
    · refine lv_iconst (v := 0) fx.1 fx.2.1 dX11_yarn_32 (by decide) ?_
      exact w_X11_yarn_33 fx n x0 x1 x2 x0 (0 : Int32) h0 h0 hr hw (lv_sub hl [0, 1, 2] rfl) hok
  · refine lv_iconst (v := 0) fx.1 fx.2.1 dX11_yarn_40 (by decide) ?_
    cases gOk_some hok
    exact g_iret fx hw hr dX11_yarn_41
