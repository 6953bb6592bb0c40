theorem dX11_thrown_0 : decode cX11_thrown 0 = .ok (.aload_n 0, 1) := by decide +kernel
theorem dX11_thrown_1 : decode cX11_thrown 1 = .ok (.getfield 3, 3) := by decide +kernel
theorem dX11_thrown_4 : decode cX11_thrown 4 = .ok (.ireturn, 1) := by decide +kernel
theorem lf_RX11_3 : gLf RX11 3 11 0 := ⟨(RX11, TX11, 20), rfl, by decide, wA_t (wt6 (List.mem_of_getElem? (i := 213) (by decide +kernel))) (by decide +kernel), rfl⟩
def rm_X11_thrown : Room := { frames := 0, cells := 0, slots := 0, locals := 0 }
def f_X11_thrown (x0 : Nat) (G : gG) : Option (Int32) :=
  some (gi G 11 0 x0)
set_option maxHeartbeats 4000000 in
set_option maxRecDepth 100000 in
theorem c_X11_thrown (l : Launch) (X : gX) (τ : gτ) (x0 : Nat) (G : gG) (h0 : gK τ x0 11) {r : Int32}  (h : f_X11_thrown x0 G = some r) : gM l X τ yX11_thrown cX11_thrown 1 (some .int) rm_X11_thrown [.ref x0] G (some (.int r)) G := by
  refine g_body (by decide +kernel) (Nat.le_of_ble_eq_true rfl) ?_
  intro p e s m args below meth c ls fx hr hw hl
  have fx : gFx X p s m args meth c cX11_thrown 1 RX11 := fx
  have hl : lv_has ls 1 [(0, .ref x0)] := hl
  have hok : gOk (f_X11_thrown x0 G) (fun q => q = r) := ⟨_, h, rfl⟩
  unfold f_X11_thrown at hok
  show W p l e rm_X11_thrown s m args below meth c s.heap [] 0 0 (MQ below (gQ X τ (some (.int r)) G) args s 0 0 (gFree X)) _
  refine lv_aload_n fx.1 fx.2.1 dX11_thrown_0 rfl (lv_at hl 0 rfl) ?_
  refine g_geti fx hw h0 lf_RX11_3 rfl dX11_thrown_1 ?_
  cases gOk_some hok
  exact g_iret fx hw hr dX11_thrown_4
theorem dX11_throwsIf_0 : decode cX11_throwsIf 0 = .ok (.iload_n 1, 1) := by decide +kernel
theorem dX11_throwsIf_1 : decode cX11_throwsIf 1 = .ok (.ifCond .eq 8, 3) := by decide +kernel
theorem dX11_throwsIf_4 : decode cX11_throwsIf 4 = .ok (.aload_n 0, 1) := by decide +kernel
theorem dX11_throwsIf_5 : decode cX11_throwsIf 5 = .ok (.iload_n 2, 1) := by decide +kernel
theorem dX11_throwsIf_6 : decode cX11_throwsIf 6 = .ok (.putfield 3, 3) := by decide +kernel
theorem dX11_throwsIf_9 : decode cX11_throwsIf 9 = .ok (.iload_n 1, 1) := by decide +kernel
theorem dX11_throwsIf_10 : decode cX11_throwsIf 10 = .ok (.ireturn, 1) := by decide +kernel
theorem lp_RX11_3 : gLp RX11 3 11 0 := ⟨(RX11, TX11, 20), rfl, by decide, wA_t (wt6 (List.mem_of_getElem? (i := 213) (by decide +kernel))) (by decide +kernel), rfl, rfl⟩
def rm_X11_throwsIf : Room := { frames := 0, cells := 0, slots := 0, locals := 0 }
def f_X11_throwsIf (x0 : Nat) (x1 : Int32) (x2 : Int32) (G : gG) : Option (Int32 × gG) :=
  if x1 = 0 then (gchk (x1 = 0 ∨ x1 = 1) <| some (x1, G))
  else (gLet (gsi G 11 0 x0 x2) fun G1 =>
  gchk (x1 = 0 ∨ x1 = 1) <| some (x1, G1))
set_option maxHeartbeats 4000000 in
set_option maxRecDepth 100000 in
theorem c_X11_throwsIf (l : Launch) (X : gX) (τ : gτ) (x0 : Nat) (x1 : Int32) (x2 : Int32) (G : gG) (h0 : gK τ x0 11) {r : Int32} {G' : gG} (h : f_X11_throwsIf x0 x1 x2 G = some (r, G')) : gM l X τ yX11_throwsIf cX11_throwsIf 3 (some .boolean) rm_X11_throwsIf [.ref x0, .int x1, .int x2] G (some (.int r)) G' := by
  refine g_body (by decide +kernel) (Nat.le_of_ble_eq_true rfl) ?_
  intro p e s m args below meth c ls fx hr hw hl
  have fx : gFx X p s m args meth c cX11_throwsIf 3 RX11 := fx
  have hl : lv_has ls 3 [(0, .ref x0), (1, .int x1), (2, .int x2)] := hl
  have hok : gOk (f_X11_throwsIf x0 x1 x2 G) (fun q => q = (r, G')) := ⟨_, h, rfl⟩
  unfold f_X11_throwsIf at hok
  show W p l e rm_X11_throwsIf s m args below meth c s.heap [] 0 0 (MQ below (gQ X τ (some (.int r)) G') args s 0 0 (gFree X)) _
  refine lv_iload_n fx.1 fx.2.1 dX11_throwsIf_0 rfl (lv_at hl 1 rfl) ?_
  refine g_if_eq (tgt := 9) fx dX11_throwsIf_1 (by decide) hok (fun hok => ?_) (fun hok => ?_)
  · refine lv_iload_n fx.1 fx.2.1 dX11_throwsIf_9 rfl (lv_at hl 1 rfl) ?_
    obtain ⟨hz, hok⟩ := gOk_chk hok
    cases gOk_some hok
    exact g_zret fx hw hr hz dX11_throwsIf_10
  · refine lv_aload_n fx.1 fx.2.1 dX11_throwsIf_4 rfl (lv_at hl 0 rfl) ?_
    refine lv_iload_n fx.1 fx.2.1 dX11_throwsIf_5 rfl (lv_at hl 2 rfl) ?_
    refine g_puti fx hw h0 lp_RX11_3 rfl rfl dX11_throwsIf_6 hok (fun G1 H locs hw hok => ?_)
    refine lv_iload_n fx.1 fx.2.1 dX11_throwsIf_9 rfl (lv_at hl 1 rfl) ?_
    obtain ⟨hz, hok⟩ := gOk_chk hok
    cases gOk_some hok
    exact g_zret fx hw hr hz dX11_throwsIf_10
theorem dX11_in_0 : decode cX11_in 0 = .ok (.iload_n 0, 1) := by decide +kernel
theorem dX11_in_1 : decode cX11_in 1 = .ok (.iload_n 1, 1) := by decide +kernel
theorem dX11_in_2 : decode cX11_in 2 = .ok (.if_icmp .lt 12, 3) := by decide +kernel
theorem dX11_in_5 : decode cX11_in 5 = .ok (.iload_n 0, 1) := by decide +kernel
theorem dX11_in_6 : decode cX11_in 6 = .ok (.iload_n 2, 1) := by decide +kernel
theorem dX11_in_7 : decode cX11_in 7 = .ok (.if_icmp .gt 7, 3) := by decide +kernel
theorem dX11_in_10 : decode cX11_in 10 = .ok (.iconst 1, 1) := by decide +kernel
theorem dX11_in_11 : decode cX11_in 11 = .ok (.goto 4, 3) := by decide +kernel
theorem dX11_in_14 : decode cX11_in 14 = .ok (.iconst 0, 1) := by decide +kernel
theorem dX11_in_15 : decode cX11_in 15 = .ok (.ireturn, 1) := by decide +kernel
def rm_X11_in : Room := { frames := 0, cells := 0, slots := 0, locals := 0 }
def f_X11_in (x0 : Int32) (x1 : Int32) (x2 : Int32) : Option (Int32) :=
  if x0 < x1 then (some (0))
  else (if x2 < x0 then (some (0))
  else (some (1)))
set_option maxHeartbeats 4000000 in
set_option maxRecDepth 100000 in
theorem c_X11_in (l : Launch) (X : gX) (τ : gτ) (x0 : Int32) (x1 : Int32) (x2 : Int32) (G : gG)  {r : Int32}  (h : f_X11_in x0 x1 x2 = some r) : gM l X τ yX11_in cX11_in 3 (some .boolean) rm_X11_in [.int x0, .int x1, .int x2] G (some (.int r)) G := by
  refine g_body (by decide +kernel) (Nat.le_of_ble_eq_true rfl) ?_
  intro p e s m args below meth c ls fx hr hw hl
  have fx : gFx X p s m args meth c cX11_in 3 RX11 := fx
  have hl : lv_has ls 3 [(0, .int x0), (1, .int x1), (2, .int x2)] := hl
  have hok : gOk (f_X11_in x0 x1 x2) (fun q => q = r) := ⟨_, h, rfl⟩
  unfold f_X11_in at hok
  show W p l e rm_X11_in s m args below meth c s.heap [] 0 0 (MQ below (gQ X τ (some (.int r)) G) args s 0 0 (gFree X)) _
  refine lv_iload_n fx.1 fx.2.1 dX11_in_0 rfl (lv_at hl 0 rfl) ?_
  refine lv_iload_n fx.1 fx.2.1 dX11_in_1 rfl (lv_at hl 1 rfl) ?_
  refine g_icmp_lt (tgt := 14) fx dX11_in_2 (by decide) hok (fun hok => ?_) (fun hok => ?_)
  · refine lv_iconst (v := 0) fx.1 fx.2.1 dX11_in_14 (by decide) ?_
    cases gOk_some hok
    exact g_zret fx hw hr (by decide) dX11_in_15
  · refine lv_iload_n fx.1 fx.2.1 dX11_in_5 rfl (lv_at hl 0 rfl) ?_
    refine lv_iload_n fx.1 fx.2.1 dX11_in_6 rfl (lv_at hl 2 rfl) ?_
    refine g_icmp_gt (tgt := 14) fx dX11_in_7 (by decide) hok (fun hok => ?_) (fun hok => ?_)
    · refine lv_iconst (v := 0) fx.1 fx.2.1 dX11_in_14 (by decide) ?_
      cases gOk_some hok
      exact g_zret fx hw hr (by decide) dX11_in_15
    · refine lv_iconst (v := 1) fx.1 fx.2.1 dX11_in_10 (by decide) ?_
      refine lv_goto (tgt := 15) fx.1 fx.2.1 dX11_in_11 (by decide) ?_
      cases gOk_some hok
      exact g_zret fx hw hr (by decide) dX11_in_15
theorem dX11_has_0 : decode cX11_has 0 = .ok (.iload_n 0, 1) := by decide +kernel
theorem dX11_has_1 : decode cX11_has 1 = .ok (.iload_n 1, 1) := by decide +kernel
theorem dX11_has_2 : decode cX11_has 2 = .ok (.ishr, 1) := by decide +kernel
theorem dX11_has_3 : decode cX11_has 3 = .ok (.iconst 1, 1) := by decide +kernel
theorem dX11_has_4 : decode cX11_has 4 = .ok (.iand, 1) := by decide +kernel
theorem dX11_has_5 : decode cX11_has 5 = .ok (.iconst 1, 1) := by decide +kernel
theorem dX11_has_6 : decode cX11_has 6 = .ok (.if_icmp .ne 7, 3) := by decide +kernel
theorem dX11_has_9 : decode cX11_has 9 = .ok (.iconst 1, 1) := by decide +kernel
theorem dX11_has_10 : decode cX11_has 10 = .ok (.goto 4, 3) := by decide +kernel
theorem dX11_has_13 : decode cX11_has 13 = .ok (.iconst 0, 1) := by decide +kernel
theorem dX11_has_14 : decode cX11_has 14 = .ok (.ireturn, 1) := by decide +kernel
def rm_X11_has : Room := { frames := 0, cells := 0, slots := 0, locals := 0 }
def f_X11_has (x0 : Int32) (x1 : Int32) : Option (Int32) :=
  if ((x0 >>> (x1 &&& 31)) &&& (1 : Int32)) = (1 : Int32) then (some (1))
  else (some (0))
set_option maxHeartbeats 4000000 in
set_option maxRecDepth 100000 in
theorem c_X11_has (l : Launch) (X : gX) (τ : gτ) (x0 : Int32) (x1 : Int32) (G : gG)  {r : Int32}  (h : f_X11_has x0 x1 = some r) : gM l X τ yX11_has cX11_has 2 (some .boolean) rm_X11_has [.int x0, .int x1] G (some (.int r)) G := by
  refine g_body (by decide +kernel) (Nat.le_of_ble_eq_true rfl) ?_
  intro p e s m args below meth c ls fx hr hw hl
  have fx : gFx X p s m args meth c cX11_has 2 RX11 := fx
  have hl : lv_has ls 2 [(0, .int x0), (1, .int x1)] := hl
  have hok : gOk (f_X11_has x0 x1) (fun q => q = r) := ⟨_, h, rfl⟩
  unfold f_X11_has at hok
  show W p l e rm_X11_has s m args below meth c s.heap [] 0 0 (MQ below (gQ X τ (some (.int r)) G) args s 0 0 (gFree X)) _
  refine lv_iload_n fx.1 fx.2.1 dX11_has_0 rfl (lv_at hl 0 rfl) ?_
  refine lv_iload_n fx.1 fx.2.1 dX11_has_1 rfl (lv_at hl 1 rfl) ?_
  refine lv_ishr fx.1 fx.2.1 dX11_has_2 ?_
  refine lv_iconst (v := 1) fx.1 fx.2.1 dX11_has_3 (by decide) ?_
  refine lv_iand fx.1 fx.2.1 dX11_has_4 ?_
  refine lv_iconst (v := 1) fx.1 fx.2.1 dX11_has_5 (by decide) ?_
  refine g_icmp_ne (tgt := 13) fx dX11_has_6 (by decide) hok (fun hok => ?_) (fun hok => ?_)
  · refine lv_iconst (v := 1) fx.1 fx.2.1 dX11_has_9 (by decide) ?_
    refine lv_goto (tgt := 14) fx.1 fx.2.1 dX11_has_10 (by decide) ?_
    cases gOk_some hok
    exact g_zret fx hw hr (by decide) dX11_has_14
  · refine lv_iconst (v := 0) fx.1 fx.2.1 dX11_has_13 (by decide) ?_
    cases gOk_some hok
    exact g_zret fx hw hr (by decide) dX11_has_14
theorem dX11_image_0 : decode cX11_image 0 = .ok (.aload_n 0, 1) := by decide +kernel
theorem dX11_image_1 : decode cX11_image 1 = .ok (.iconst 0, 1) := by decide +kernel
theorem dX11_image_2 : decode cX11_image 2 = .ok (.putfield 3, 3) := by decide +kernel
theorem dX11_image_5 : decode cX11_image 5 = .ok (.iconst 0, 1) := by decide +kernel
theorem dX11_image_6 : decode cX11_image 6 = .ok (.istore_n 1, 1) := by decide +kernel
theorem dX11_image_7 : decode cX11_image 7 = .ok (.iload_n 1, 1) := by decide +kernel
theorem dX11_image_8 : decode cX11_image 8 = .ok (.sipush 1316, 3) := by decide +kernel
theorem dX11_image_11 : decode cX11_image 11 = .ok (.if_icmp .ge 21, 3) := by decide +kernel
theorem dX11_image_14 : decode cX11_image 14 = .ok (.aload_n 0, 1) := by decide +kernel
theorem dX11_image_15 : decode cX11_image 15 = .ok (.getfield 17, 3) := by decide +kernel
theorem dX11_image_18 : decode cX11_image 18 = .ok (.iload_n 1, 1) := by decide +kernel
theorem dX11_image_19 : decode cX11_image 19 = .ok (.aload_n 0, 1) := by decide +kernel
theorem dX11_image_20 : decode cX11_image 20 = .ok (.getfield 13, 3) := by decide +kernel
theorem dX11_image_23 : decode cX11_image 23 = .ok (.iload_n 1, 1) := by decide +kernel
theorem dX11_image_24 : decode cX11_image 24 = .ok (.iaload, 1) := by decide +kernel
theorem dX11_image_25 : decode cX11_image 25 = .ok (.iastore, 1) := by decide +kernel
theorem dX11_image_26 : decode cX11_image 26 = .ok (.iinc 1 1, 3) := by decide +kernel
theorem dX11_image_29 : decode cX11_image 29 = .ok (.goto (-22), 3) := by decide +kernel
theorem dX11_image_32 : decode cX11_image 32 = .ok (.aload_n 0, 1) := by decide +kernel
theorem dX11_image_33 : decode cX11_image 33 = .ok (.iconst 1, 1) := by decide +kernel
theorem dX11_image_34 : decode cX11_image 34 = .ok (.putfield 48, 3) := by decide +kernel
theorem dX11_image_37 : decode cX11_image 37 = .ok (.return_, 1) := by decide +kernel
theorem lf_RX11_17 : gLf RX11 17 11 2 := ⟨(RX11, TX11, 20), rfl, by decide, wA_t (wt6 (List.mem_of_getElem? (i := 215) (by decide +kernel))) (by decide +kernel), rfl⟩
theorem lf_RX11_13 : gLf RX11 13 11 1 := ⟨(RX11, TX11, 20), rfl, by decide, wA_t (wt6 (List.mem_of_getElem? (i := 214) (by decide +kernel))) (by decide +kernel), rfl⟩
theorem lp_RX11_48 : gLp RX11 48 11 6 := ⟨(RX11, TX11, 20), rfl, by decide, wA_t (wt6 (List.mem_of_getElem? (i := 219) (by decide +kernel))) (by decide +kernel), rfl, rfl⟩
def rm_X11_image : Room := { frames := 0, cells := 0, slots := 0, locals := 0 }
def b_X11_image_7 (τ : gτ) (n : Nat) (x0 : Nat) (x1 : Int32) (G : gG) : Option ((Int32 × gG) ⊕ ((gG))) :=
  if (1316 : Int32) ≤ x1 then (some (.inr G))
  else ((gr G 11 2 x0).bind fun a2 =>
  (gr G 11 1 x0).bind fun a3 =>
  gchk (gIn x1 (gn τ a3)) <|
  gchk (gIn x1 (gn τ a2)) <| gLet (gse G a2 (Int32.toNatClampNeg x1) (ge G a3 (Int32.toNatClampNeg x1))) fun G4 =>
  gLet (x1 + 1) fun v5 =>
  some (.inl (v5, G4)))
def l_X11_image_7 (τ : gτ) (n : Nat) (x0 : Nat) (x1 : Int32) (G : gG) : Option ((gG)) :=
  gIter (fun (q : Int32 × gG) => b_X11_image_7 τ n x0 q.1 q.2) n (x1, G)
def k_X11_image_32 (τ : gτ) (n : Nat) (x0 : Nat)  (G : gG) : Option (gG) :=
  gLet (gsi G 11 6 x0 (1 : Int32)) fun G7 =>
  some G7
def f_X11_image (τ : gτ) (n : Nat) (x0 : Nat) (G : gG) : Option (gG) :=
  gLet (gsi G 11 0 x0 (0 : Int32)) fun G1 =>
  (l_X11_image_7 τ n x0 (0 : Int32) G1).bind fun q => gLet q fun G6 => 
  k_X11_image_32 τ n x0  G6
set_option maxHeartbeats 4000000 in
set_option maxRecDepth 100000 in
theorem w_b_X11_image_7 {X : gX} {τ : gτ} {p : Program} {l : Launch} {e : Env} {s : State} {m : MethodId} {args : Array Value} {below : List Frame} {meth : Method} {c : Code} (fx : gFx X p s m args meth c cX11_image 2 RX11) (n : Nat) (x0 : Nat) (x1 : Int32) (h0 : gK τ x0 11) {Q : State → Prop} {K : ((Int32 × gG) ⊕ ((gG))) → Prop} {G : gG} {H : Heap} {locs : List Loc} {ls : Array Slot} (hw : gHw X τ G H locs) (hl : lv_has ls 2 [(0, .ref x0), (1, .int x1)]) (hok : gOk (b_X11_image_7 τ n x0 x1 G) K) (hc : ∀ (y1 : Int32) (G : gG) (H : Heap) (locs : List Loc) (ls : Array Slot), gHw X τ G H locs → lv_has ls 2 [(0, .ref x0), (1, .int y1)] → K (.inl (y1, G)) → W p l e rm_X11_image s m args below meth c H locs 0 0 Q (F0 m 7 ls [])) (hx0 : ∀ (G : gG) (H : Heap) (locs : List Loc) (ls : Array Slot), gHw X τ G H locs → lv_has ls 2 [(0, .ref x0)] → K (.inr G) → W p l e rm_X11_image s m args below meth c H locs 0 0 Q (F0 m 32 ls [])) : W p l e rm_X11_image s m args below meth c H locs 0 0 Q (F0 m 7 ls []) := by
  unfold b_X11_image_7 at hok
  refine lv_iload_n fx.1 fx.2.1 dX11_image_7 rfl (lv_at hl 1 rfl) ?_
  refine lv_sipush (v := 1316) fx.1 fx.2.1 dX11_image_8 (by decide) ?_
  refine g_icmp_ge (tgt := 32) fx dX11_image_11 (by decide) hok (fun hok => ?_) (fun hok => ?_)
  · exact hx0  G _ _ _  hw (lv_sub hl [0] rfl) (gOk_some hok)
  · refine lv_aload_n fx.1 fx.2.1 dX11_image_14 rfl (lv_at hl 0 rfl) ?_
    refine g_getr fx hw h0 lf_RX11_17 rfl dX11_image_15 hok (fun a2 h_a2 hok => ?_)
    refine lv_iload_n fx.1 fx.2.1 dX11_image_18 rfl (lv_at hl 1 rfl) ?_
    refine lv_aload_n fx.1 fx.2.1 dX11_image_19 rfl (lv_at hl 0 rfl) ?_
    refine g_getr fx hw h0 lf_RX11_13 rfl dX11_image_20 hok (fun a3 h_a3 hok => ?_)
    refine lv_iload_n fx.1 fx.2.1 dX11_image_23 rfl (lv_at hl 1 rfl) ?_
    refine g_iald fx hw h_a3 dX11_image_24 hok (fun hok => ?_)
    refine g_iast fx hw h_a2 dX11_image_25 hok (fun G4 H locs hw hok => ?_)
    obtain ⟨v5, e_v5, hok⟩ := gOk_let hok
    refine lv_iinc (v := v5) (lv' := [(1, .int v5), (0, .ref x0)]) fx.1 fx.2.1 dX11_image_26 hl (k := 1) rfl (by rw [e_v5]; rfl) (by decide) rfl (fun ls hl => ?_)
    refine lv_goto (tgt := 7) fx.1 fx.2.1 dX11_image_29 (by decide) ?_
    exact hc v5 G4 _ _ _  hw (lv_sub hl [1, 0] rfl) (gOk_some hok)
theorem w_l_X11_image_7 {X : gX} {τ : gτ} {p : Program} {l : Launch} {e : Env} {s : State} {m : MethodId} {args : Array Value} {below : List Frame} {meth : Method} {c : Code} (fx : gFx X p s m args meth c cX11_image 2 RX11) (n : Nat) (x0 : Nat) (h0 : gK τ x0 11) {Q : State → Prop} {K : ((gG)) → Prop} (hx0 : ∀ (G : gG) (H : Heap) (locs : List Loc) (ls : Array Slot), gHw X τ G H locs → lv_has ls 2 [(0, .ref x0)] → K G → W p l e rm_X11_image s m args below meth c H locs 0 0 Q (F0 m 32 ls [])) : ∀ (k : Nat) (x1 : Int32) (G : gG) (H : Heap) (locs : List Loc) (ls : Array Slot), gHw X τ G H locs → lv_has ls 2 [(0, .ref x0), (1, .int x1)] → gOk (gIter (fun (q : Int32 × gG) => b_X11_image_7 τ n x0 q.1 q.2) k (x1, G)) K → W p l e rm_X11_image s m args below meth c H locs 0 0 Q (F0 m 7 ls []) := by
  intro k
  induction k with
  | zero =>
    intro x1 G H locs ls hw hl hok
    exact gOk_iter0 hok
  | succ k hc =>
    intro x1 G H locs ls hw hl hok
    exact w_b_X11_image_7 fx n x0 x1 h0 hw hl (gOk_iter hok) hc hx0
set_option maxHeartbeats 4000000 in
set_option maxRecDepth 100000 in
theorem w_X11_image_32 {X : gX} {τ : gτ} {p : Program} {l : Launch} {e : Env} {s : State} {m : MethodId} {args : Array Value} {below : List Frame} {meth : Method} {c : Code} (fx : gFx X p s m args meth c cX11_image 2 RX11) (n : Nat) (x0 : Nat)  (h0 : gK τ x0 11)  (hr : meth.sig.returnType = none) {G' : gG} {G : gG} {H : Heap} {locs : List Loc} {ls : Array Slot} (hw : gHw X τ G H locs) (hl : lv_has ls 2 [(0, .ref x0)]) (hok : gOk (k_X11_image_32 τ n x0  G) (fun q => q = G'))  : W p l e rm_X11_image s m args below meth c H locs 0 0 (MQ below (gQ X τ none G') args s 0 0 (gFree X)) (F0 m 32 ls []) := by
  unfold k_X11_image_32 at hok
  refine lv_aload_n fx.1 fx.2.1 dX11_image_32 rfl (lv_at hl 0 rfl) ?_
  refine lv_iconst (v := 1) fx.1 fx.2.1 dX11_image_33 (by decide) ?_
  refine g_putz fx hw h0 lp_RX11_48 rfl rfl (by decide) dX11_image_34 hok (fun G7 H locs hw hok => ?_)
  cases gOk_some hok
  exact g_vret fx hw hr dX11_image_37
set_option maxHeartbeats 4000000 in
set_option maxRecDepth 100000 in
theorem c_X11_image (l : Launch) (X : gX) (τ : gτ) (n : Nat) (x0 : Nat) (G : gG) (h0 : gK τ x0 11) {G' : gG} (h : f_X11_image τ n x0 G = some G') : gM l X τ yX11_image cX11_image 2 none rm_X11_image [.ref x0] G none G' := by
  refine g_body (by decide +kernel) (Nat.le_of_ble_eq_true rfl) ?_
  intro p e s m args below meth c ls fx hr hw hl
  have fx : gFx X p s m args meth c cX11_image 2 RX11 := fx
  have hl : lv_has ls 2 [(0, .ref x0)] := hl
  have hok : gOk (f_X11_image τ n x0 G) (fun q => q = G') := ⟨_, h, rfl⟩
  unfold f_X11_image at hok
  show W p l e rm_X11_image s m args below meth c s.heap [] 0 0 (MQ below (gQ X τ none G') args s 0 0 (gFree X)) _
  refine lv_aload_n fx.1 fx.2.1 dX11_image_0 rfl (lv_at hl 0 rfl) ?_
  refine lv_iconst (v := 0) fx.1 fx.2.1 dX11_image_1 (by decide) ?_
  refine g_puti fx hw h0 lp_RX11_3 rfl rfl dX11_image_2 hok (fun G1 H locs hw hok => ?_)
  refine lv_iconst (v := 0) fx.1 fx.2.1 dX11_image_5 (by decide) ?_
  refine lv_istore_n (lv' := [(1, .int (0 : Int32)), (0, .ref x0)]) fx.1 fx.2.1 dX11_image_6 rfl hl (by decide) rfl (fun ls hl => ?_)
  refine w_l_X11_image_7 fx n x0 h0 ?_ n (0 : Int32) G1 _ _ _  hw (lv_sub hl [1, 0] rfl) (gOk_bindK hok)
  intro G6 H locs ls hw hl hok
  have hok : gOk (ρ := gG) (k_X11_image_32 τ n x0  G6) _ := hok
  exact w_X11_image_32 fx n x0  h0  hr hw (lv_sub hl [0] rfl) hok
theorem dX11_back_0 : decode cX11_back 0 = .ok (.aload_n 0, 1) := by decide +kernel
theorem dX11_back_1 : decode cX11_back 1 = .ok (.iconst 0, 1) := by decide +kernel
theorem dX11_back_2 : decode cX11_back 2 = .ok (.putfield 3, 3) := by decide +kernel
theorem dX11_back_5 : decode cX11_back 5 = .ok (.aload_n 0, 1) := by decide +kernel
theorem dX11_back_6 : decode cX11_back 6 = .ok (.getfield 48, 3) := by decide +kernel
theorem dX11_back_9 : decode cX11_back 9 = .ok (.ifCond .ne 5, 3) := by decide +kernel
theorem dX11_back_12 : decode cX11_back 12 = .ok (.iconst 0, 1) := by decide +kernel
theorem dX11_back_13 : decode cX11_back 13 = .ok (.ireturn, 1) := by decide +kernel
theorem dX11_back_14 : decode cX11_back 14 = .ok (.iconst 0, 1) := by decide +kernel
theorem dX11_back_15 : decode cX11_back 15 = .ok (.istore_n 1, 1) := by decide +kernel
theorem dX11_back_16 : decode cX11_back 16 = .ok (.iload_n 1, 1) := by decide +kernel
theorem dX11_back_17 : decode cX11_back 17 = .ok (.sipush 1316, 3) := by decide +kernel
theorem dX11_back_20 : decode cX11_back 20 = .ok (.if_icmp .ge 21, 3) := by decide +kernel
theorem dX11_back_23 : decode cX11_back 23 = .ok (.aload_n 0, 1) := by decide +kernel
theorem dX11_back_24 : decode cX11_back 24 = .ok (.getfield 13, 3) := by decide +kernel
theorem dX11_back_27 : decode cX11_back 27 = .ok (.iload_n 1, 1) := by decide +kernel
theorem dX11_back_28 : decode cX11_back 28 = .ok (.aload_n 0, 1) := by decide +kernel
theorem dX11_back_29 : decode cX11_back 29 = .ok (.getfield 17, 3) := by decide +kernel
theorem dX11_back_32 : decode cX11_back 32 = .ok (.iload_n 1, 1) := by decide +kernel
theorem dX11_back_33 : decode cX11_back 33 = .ok (.iaload, 1) := by decide +kernel
theorem dX11_back_34 : decode cX11_back 34 = .ok (.iastore, 1) := by decide +kernel
theorem dX11_back_35 : decode cX11_back 35 = .ok (.iinc 1 1, 3) := by decide +kernel
theorem dX11_back_38 : decode cX11_back 38 = .ok (.goto (-22), 3) := by decide +kernel
theorem dX11_back_41 : decode cX11_back 41 = .ok (.aload_n 0, 1) := by decide +kernel
theorem dX11_back_42 : decode cX11_back 42 = .ok (.iconst 0, 1) := by decide +kernel
theorem dX11_back_43 : decode cX11_back 43 = .ok (.putfield 52, 3) := by decide +kernel
theorem dX11_back_46 : decode cX11_back 46 = .ok (.iconst 1, 1) := by decide +kernel
theorem dX11_back_47 : decode cX11_back 47 = .ok (.ireturn, 1) := by decide +kernel
theorem lf_RX11_48 : gLf RX11 48 11 6 := ⟨(RX11, TX11, 20), rfl, by decide, wA_t (wt6 (List.mem_of_getElem? (i := 219) (by decide +kernel))) (by decide +kernel), rfl⟩
theorem lp_RX11_52 : gLp RX11 52 11 7 := ⟨(RX11, TX11, 20), rfl, by decide, wA_t (wt6 (List.mem_of_getElem? (i := 220) (by decide +kernel))) (by decide +kernel), rfl, rfl⟩
def rm_X11_back : Room := { frames := 0, cells := 0, slots := 0, locals := 0 }
def b_X11_back_16 (τ : gτ) (n : Nat) (x0 : Nat) (x1 : Int32) (G : gG) : Option ((Int32 × gG) ⊕ ((gG))) :=
  if (1316 : Int32) ≤ x1 then (some (.inr G))
  else ((gr G 11 1 x0).bind fun a2 =>
  (gr G 11 2 x0).bind fun a3 =>
  gchk (gIn x1 (gn τ a3)) <|
  gchk (gIn x1 (gn τ a2)) <| gLet (gse G a2 (Int32.toNatClampNeg x1) (ge G a3 (Int32.toNatClampNeg x1))) fun G4 =>
  gLet (x1 + 1) fun v5 =>
  some (.inl (v5, G4)))
def l_X11_back_16 (τ : gτ) (n : Nat) (x0 : Nat) (x1 : Int32) (G : gG) : Option ((gG)) :=
  gIter (fun (q : Int32 × gG) => b_X11_back_16 τ n x0 q.1 q.2) n (x1, G)
def k_X11_back_41 (τ : gτ) (n : Nat) (x0 : Nat)  (G : gG) : Option (Int32 × gG) :=
  gLet (gsi G 11 7 x0 (0 : Int32)) fun G7 =>
  some (1, G7)
def f_X11_back (τ : gτ) (n : Nat) (x0 : Nat) (G : gG) : Option (Int32 × gG) :=
  gLet (gsi G 11 0 x0 (0 : Int32)) fun G1 =>
  if (gi G1 11 6 x0) = 0 then (some (0, G1))
  else ((l_X11_back_16 τ n x0 (0 : Int32) G1).bind fun q => gLet q fun G6 => 
  k_X11_back_41 τ n x0  G6)
set_option maxHeartbeats 4000000 in
set_option maxRecDepth 100000 in
theorem w_b_X11_back_16 {X : gX} {τ : gτ} {p : Program} {l : Launch} {e : Env} {s : State} {m : MethodId} {args : Array Value} {below : List Frame} {meth : Method} {c : Code} (fx : gFx X p s m args meth c cX11_back 2 RX11) (n : Nat) (x0 : Nat) (x1 : Int32) (h0 : gK τ x0 11) {Q : State → Prop} {K : ((Int32 × gG) ⊕ ((gG))) → Prop} {G : gG} {H : Heap} {locs : List Loc} {ls : Array Slot} (hw : gHw X τ G H locs) (hl : lv_has ls 2 [(0, .ref x0), (1, .int x1)]) (hok : gOk (b_X11_back_16 τ n x0 x1 G) K) (hc : ∀ (y1 : Int32) (G : gG) (H : Heap) (locs : List Loc) (ls : Array Slot), gHw X τ G H locs → lv_has ls 2 [(0, .ref x0), (1, .int y1)] → K (.inl (y1, G)) → W p l e rm_X11_back s m args below meth c H locs 0 0 Q (F0 m 16 ls [])) (hx0 : ∀ (G : gG) (H : Heap) (locs : List Loc) (ls : Array Slot), gHw X τ G H locs → lv_has ls 2 [(0, .ref x0)] → K (.inr G) → W p l e rm_X11_back s m args below meth c H locs 0 0 Q (F0 m 41 ls [])) : W p l e rm_X11_back s m args below meth c H locs 0 0 Q (F0 m 16 ls []) := by
  unfold b_X11_back_16 at hok
  refine lv_iload_n fx.1 fx.2.1 dX11_back_16 rfl (lv_at hl 1 rfl) ?_
  refine lv_sipush (v := 1316) fx.1 fx.2.1 dX11_back_17 (by decide) ?_
  refine g_icmp_ge (tgt := 41) fx dX11_back_20 (by decide) hok (fun hok => ?_) (fun hok => ?_)
  · exact hx0  G _ _ _  hw (lv_sub hl [0] rfl) (gOk_some hok)
  · refine lv_aload_n fx.1 fx.2.1 dX11_back_23 rfl (lv_at hl 0 rfl) ?_
    refine g_getr fx hw h0 lf_RX11_13 rfl dX11_back_24 hok (fun a2 h_a2 hok => ?_)
    refine lv_iload_n fx.1 fx.2.1 dX11_back_27 rfl (lv_at hl 1 rfl) ?_
    refine lv_aload_n fx.1 fx.2.1 dX11_back_28 rfl (lv_at hl 0 rfl) ?_
    refine g_getr fx hw h0 lf_RX11_17 rfl dX11_back_29 hok (fun a3 h_a3 hok => ?_)
    refine lv_iload_n fx.1 fx.2.1 dX11_back_32 rfl (lv_at hl 1 rfl) ?_
    refine g_iald fx hw h_a3 dX11_back_33 hok (fun hok => ?_)
    refine g_iast fx hw h_a2 dX11_back_34 hok (fun G4 H locs hw hok => ?_)
    obtain ⟨v5, e_v5, hok⟩ := gOk_let hok
    refine lv_iinc (v := v5) (lv' := [(1, .int v5), (0, .ref x0)]) fx.1 fx.2.1 dX11_back_35 hl (k := 1) rfl (by rw [e_v5]; rfl) (by decide) rfl (fun ls hl => ?_)
    refine lv_goto (tgt := 16) fx.1 fx.2.1 dX11_back_38 (by decide) ?_
    exact hc v5 G4 _ _ _  hw (lv_sub hl [1, 0] rfl) (gOk_some hok)
theorem w_l_X11_back_16 {X : gX} {τ : gτ} {p : Program} {l : Launch} {e : Env} {s : State} {m : MethodId} {args : Array Value} {below : List Frame} {meth : Method} {c : Code} (fx : gFx X p s m args meth c cX11_back 2 RX11) (n : Nat) (x0 : Nat) (h0 : gK τ x0 11) {Q : State → Prop} {K : ((gG)) → Prop} (hx0 : ∀ (G : gG) (H : Heap) (locs : List Loc) (ls : Array Slot), gHw X τ G H locs → lv_has ls 2 [(0, .ref x0)] → K G → W p l e rm_X11_back s m args below meth c H locs 0 0 Q (F0 m 41 ls [])) : ∀ (k : Nat) (x1 : Int32) (G : gG) (H : Heap) (locs : List Loc) (ls : Array Slot), gHw X τ G H locs → lv_has ls 2 [(0, .ref x0), (1, .int x1)] → gOk (gIter (fun (q : Int32 × gG) => b_X11_back_16 τ n x0 q.1 q.2) k (x1, G)) K → W p l e rm_X11_back s m args below meth c H locs 0 0 Q (F0 m 16 ls []) := by
  intro k
  induction k with
  | zero =>
    intro x1 G H locs ls hw hl hok
    exact gOk_iter0 hok
  | succ k hc =>
    intro x1 G H locs ls hw hl hok
    exact w_b_X11_back_16 fx n x0 x1 h0 hw hl (gOk_iter hok) hc hx0
set_option maxHeartbeats 4000000 in
set_option maxRecDepth 100000 in
theorem w_X11_back_41 {X : gX} {τ : gτ} {p : Program} {l : Launch} {e : Env} {s : State} {m : MethodId} {args : Array Value} {below : List Frame} {meth : Method} {c : Code} (fx : gFx X p s m args meth c cX11_back 2 RX11) (n : Nat) (x0 : Nat)  (h0 : gK τ x0 11)  (hr : meth.sig.returnType = (some .boolean)) {r : Int32} {G' : gG} {G : gG} {H : Heap} {locs : List Loc} {ls : Array Slot} (hw : gHw X τ G H locs) (hl : lv_has ls 2 [(0, .ref x0)]) (hok : gOk (k_X11_back_41 τ n x0  G) (fun q => q = (r, G')))  : W p l e rm_X11_back s m args below meth c H locs 0 0 (MQ below (gQ X τ (some (.int r)) G') args s 0 0 (gFree X)) (F0 m 41 ls []) := by
  unfold k_X11_back_41 at hok
  refine lv_aload_n fx.1 fx.2.1 dX11_back_41 rfl (lv_at hl 0 rfl) ?_
  refine lv_iconst (v := 0) fx.1 fx.2.1 dX11_back_42 (by decide) ?_
  refine g_puti fx hw h0 lp_RX11_52 rfl rfl dX11_back_43 hok (fun G7 H locs hw hok => ?_)
  refine lv_iconst (v := 1) fx.1 fx.2.1 dX11_back_46 (by decide) ?_
  cases gOk_some hok
  exact g_zret fx hw hr (by decide) dX11_back_47
set_option maxHeartbeats 4000000 in
set_option maxRecDepth 100000 in
theorem c_X11_back (l : Launch) (X : gX) (τ : gτ) (n : Nat) (x0 : Nat) (G : gG) (h0 : gK τ x0 11) {r : Int32} {G' : gG} (h : f_X11_back τ n x0 G = some (r, G')) : gM l X τ yX11_back cX11_back 2 (some .boolean) rm_X11_back [.ref x0] G (some (.int r)) G' := by
  refine g_body (by decide +kernel) (Nat.le_of_ble_eq_true rfl) ?_
  intro p e s m args below meth c ls fx hr hw hl
  have fx : gFx X p s m args meth c cX11_back 2 RX11 := fx
  have hl : lv_has ls 2 [(0, .ref x0)] := hl
  have hok : gOk (f_X11_back τ n x0 G) (fun q => q = (r, G')) := ⟨_, h, rfl⟩
  unfold f_X11_back at hok
  show W p l e rm_X11_back s m args below meth c s.heap [] 0 0 (MQ below (gQ X τ (some (.int r)) G') args s 0 0 (gFree X)) _
  refine lv_aload_n fx.1 fx.2.1 dX11_back_0 rfl (lv_at hl 0 rfl) ?_
  refine lv_iconst (v := 0) fx.1 fx.2.1 dX11_back_1 (by decide) ?_
  refine g_puti fx hw h0 lp_RX11_3 rfl rfl dX11_back_2 hok (fun G1 H locs hw hok => ?_)
  refine lv_aload_n fx.1 fx.2.1 dX11_back_5 rfl (lv_at hl 0 rfl) ?_
  refine g_geti fx hw h0 lf_RX11_48 rfl dX11_back_6 ?_
  refine g_if_ne (tgt := 14) fx dX11_back_9 (by decide) hok (fun hok => ?_) (fun hok => ?_)
  · refine lv_iconst (v := 0) fx.1 fx.2.1 dX11_back_12 (by decide) ?_
    cases gOk_some hok
    exact g_zret fx hw hr (by decide) dX11_back_13
  · refine lv_iconst (v := 0) fx.1 fx.2.1 dX11_back_14 (by decide) ?_
    refine lv_istore_n (lv' := [(1, .int (0 : Int32)), (0, .ref x0)]) fx.1 fx.2.1 dX11_back_15 rfl hl (by decide) rfl (fun ls hl => ?_)
    refine w_l_X11_back_16 fx n x0 h0 ?_ n (0 : Int32) G1 _ _ _  hw (lv_sub hl [1, 0] rfl) (gOk_bindK hok)
    intro G6 H locs ls hw hl hok
    have hok : gOk (ρ := Int32 × gG) (k_X11_back_41 τ n x0  G6) _ := hok
    exact w_X11_back_41 fx n x0  h0  hr hw (lv_sub hl [0] rfl) hok
theorem dX11_remembers_0 : decode cX11_remembers 0 = .ok (.aload_n 0, 1) := by decide +kernel
theorem dX11_remembers_1 : decode cX11_remembers 1 = .ok (.getfield 52, 3) := by decide +kernel
theorem dX11_remembers_4 : decode cX11_remembers 4 = .ok (.bipush 12, 2) := by decide +kernel
theorem dX11_remembers_6 : decode cX11_remembers 6 = .ok (.if_icmp .ne 37, 3) := by decide +kernel
theorem dX11_remembers_9 : decode cX11_remembers 9 = .ok (.iconst 0, 1) := by decide +kernel
theorem dX11_remembers_10 : decode cX11_remembers 10 = .ok (.istore_n 1, 1) := by decide +kernel
theorem dX11_remembers_11 : decode cX11_remembers 11 = .ok (.iload_n 1, 1) := by decide +kernel
theorem dX11_remembers_12 : decode cX11_remembers 12 = .ok (.sipush 5137, 3) := by decide +kernel
theorem dX11_remembers_15 : decode cX11_remembers 15 = .ok (.if_icmp .ge 25, 3) := by decide +kernel
theorem dX11_remembers_18 : decode cX11_remembers 18 = .ok (.aload_n 0, 1) := by decide +kernel
theorem dX11_remembers_19 : decode cX11_remembers 19 = .ok (.getfield 26, 3) := by decide +kernel
theorem dX11_remembers_22 : decode cX11_remembers 22 = .ok (.iload_n 1, 1) := by decide +kernel
theorem dX11_remembers_23 : decode cX11_remembers 23 = .ok (.aload_n 0, 1) := by decide +kernel
theorem dX11_remembers_24 : decode cX11_remembers 24 = .ok (.getfield 26, 3) := by decide +kernel
theorem dX11_remembers_27 : decode cX11_remembers 27 = .ok (.iload_n 1, 1) := by decide +kernel
theorem dX11_remembers_28 : decode cX11_remembers 28 = .ok (.sipush 467, 3) := by decide +kernel
theorem dX11_remembers_31 : decode cX11_remembers 31 = .ok (.iadd, 1) := by decide +kernel
theorem dX11_remembers_32 : decode cX11_remembers 32 = .ok (.iaload, 1) := by decide +kernel
theorem dX11_remembers_33 : decode cX11_remembers 33 = .ok (.iastore, 1) := by decide +kernel
theorem dX11_remembers_34 : decode cX11_remembers 34 = .ok (.iinc 1 1, 3) := by decide +kernel
theorem dX11_remembers_37 : decode cX11_remembers 37 = .ok (.goto (-26), 3) := by decide +kernel
theorem dX11_remembers_40 : decode cX11_remembers 40 = .ok (.goto 13, 3) := by decide +kernel
theorem dX11_remembers_43 : decode cX11_remembers 43 = .ok (.aload_n 0, 1) := by decide +kernel
theorem dX11_remembers_44 : decode cX11_remembers 44 = .ok (.dup, 1) := by decide +kernel
theorem dX11_remembers_45 : decode cX11_remembers 45 = .ok (.getfield 52, 3) := by decide +kernel
theorem dX11_remembers_48 : decode cX11_remembers 48 = .ok (.iconst 1, 1) := by decide +kernel
theorem dX11_remembers_49 : decode cX11_remembers 49 = .ok (.iadd, 1) := by decide +kernel
theorem dX11_remembers_50 : decode cX11_remembers 50 = .ok (.putfield 52, 3) := by decide +kernel
theorem dX11_remembers_53 : decode cX11_remembers 53 = .ok (.iconst 0, 1) := by decide +kernel
theorem dX11_remembers_54 : decode cX11_remembers 54 = .ok (.istore_n 1, 1) := by decide +kernel
theorem dX11_remembers_55 : decode cX11_remembers 55 = .ok (.iload_n 1, 1) := by decide +kernel
theorem dX11_remembers_56 : decode cX11_remembers 56 = .ok (.sipush 467, 3) := by decide +kernel
theorem dX11_remembers_59 : decode cX11_remembers 59 = .ok (.if_icmp .ge 32, 3) := by decide +kernel
theorem dX11_remembers_62 : decode cX11_remembers 62 = .ok (.aload_n 0, 1) := by decide +kernel
theorem dX11_remembers_63 : decode cX11_remembers 63 = .ok (.getfield 26, 3) := by decide +kernel
theorem dX11_remembers_66 : decode cX11_remembers 66 = .ok (.sipush 467, 3) := by decide +kernel
theorem dX11_remembers_69 : decode cX11_remembers 69 = .ok (.aload_n 0, 1) := by decide +kernel
theorem dX11_remembers_70 : decode cX11_remembers 70 = .ok (.getfield 52, 3) := by decide +kernel
theorem dX11_remembers_73 : decode cX11_remembers 73 = .ok (.iconst 1, 1) := by decide +kernel
theorem dX11_remembers_74 : decode cX11_remembers 74 = .ok (.isub, 1) := by decide +kernel
theorem dX11_remembers_75 : decode cX11_remembers 75 = .ok (.imul, 1) := by decide +kernel
theorem dX11_remembers_76 : decode cX11_remembers 76 = .ok (.iload_n 1, 1) := by decide +kernel
theorem dX11_remembers_77 : decode cX11_remembers 77 = .ok (.iadd, 1) := by decide +kernel
theorem dX11_remembers_78 : decode cX11_remembers 78 = .ok (.aload_n 0, 1) := by decide +kernel
theorem dX11_remembers_79 : decode cX11_remembers 79 = .ok (.getfield 13, 3) := by decide +kernel
theorem dX11_remembers_82 : decode cX11_remembers 82 = .ok (.iload_n 1, 1) := by decide +kernel
theorem dX11_remembers_83 : decode cX11_remembers 83 = .ok (.iaload, 1) := by decide +kernel
theorem dX11_remembers_84 : decode cX11_remembers 84 = .ok (.iastore, 1) := by decide +kernel
theorem dX11_remembers_85 : decode cX11_remembers 85 = .ok (.iinc 1 1, 3) := by decide +kernel
theorem dX11_remembers_88 : decode cX11_remembers 88 = .ok (.goto (-33), 3) := by decide +kernel
theorem dX11_remembers_91 : decode cX11_remembers 91 = .ok (.return_, 1) := by decide +kernel
theorem lf_RX11_52 : gLf RX11 52 11 7 := ⟨(RX11, TX11, 20), rfl, by decide, wA_t (wt6 (List.mem_of_getElem? (i := 220) (by decide +kernel))) (by decide +kernel), rfl⟩
theorem lf_RX11_26 : gLf RX11 26 11 5 := ⟨(RX11, TX11, 20), rfl, by decide, wA_t (wt6 (List.mem_of_getElem? (i := 218) (by decide +kernel))) (by decide +kernel), rfl⟩
def rm_X11_remembers : Room := { frames := 0, cells := 0, slots := 0, locals := 0 }
def b_X11_remembers_11 (τ : gτ) (n : Nat) (x0 : Nat) (x1 : Int32) (G : gG) : Option ((Int32 × gG) ⊕ ((gG))) :=
  if (5137 : Int32) ≤ x1 then (some (.inr G))
  else ((gr G 11 5 x0).bind fun a1 =>
  (gr G 11 5 x0).bind fun a2 =>
  gchk (gIn (x1 + (467 : Int32)) (gn τ a2)) <|
  gchk (gIn x1 (gn τ a1)) <| gLet (gse G a1 (Int32.toNatClampNeg x1) (ge G a2 (Int32.toNatClampNeg (x1 + (467 : Int32))))) fun G3 =>
  gLet (x1 + 1) fun v4 =>
  some (.inl (v4, G3)))
def l_X11_remembers_11 (τ : gτ) (n : Nat) (x0 : Nat) (x1 : Int32) (G : gG) : Option ((gG)) :=
  gIter (fun (q : Int32 × gG) => b_X11_remembers_11 τ n x0 q.1 q.2) n (x1, G)
def b_X11_remembers_55 (τ : gτ) (n : Nat) (x0 : Nat) (x1 : Int32) (G : gG) : Option ((Int32 × gG) ⊕ ((gG))) :=
  if (467 : Int32) ≤ x1 then (some (.inr G))
  else ((gr G 11 5 x0).bind fun a6 =>
  (gr G 11 1 x0).bind fun a7 =>
  gchk (gIn x1 (gn τ a7)) <|
  gchk (gIn (((467 : Int32) * ((gi G 11 7 x0) - (1 : Int32))) + x1) (gn τ a6)) <| gLet (gse G a6 (Int32.toNatClampNeg (((467 : Int32) * ((gi G 11 7 x0) - (1 : Int32))) + x1)) (ge G a7 (Int32.toNatClampNeg x1))) fun G8 =>
  gLet (x1 + 1) fun v9 =>
  some (.inl (v9, G8)))
def l_X11_remembers_55 (τ : gτ) (n : Nat) (x0 : Nat) (x1 : Int32) (G : gG) : Option ((gG)) :=
  gIter (fun (q : Int32 × gG) => b_X11_remembers_55 τ n x0 q.1 q.2) n (x1, G)
def k_X11_remembers_53 (τ : gτ) (n : Nat) (x0 : Nat)  (G : gG) : Option (gG) :=
  (l_X11_remembers_55 τ n x0 (0 : Int32) G).bind fun q => gLet q fun G10 => 
  some G10
def k_X11_remembers_40 (τ : gτ) (n : Nat) (x0 : Nat)  (G : gG) : Option (gG) :=
  k_X11_remembers_53 τ n x0  G
def f_X11_remembers (τ : gτ) (n : Nat) (x0 : Nat) (G : gG) : Option (gG) :=
  if (gi G 11 7 x0) = (12 : Int32) then ((l_X11_remembers_11 τ n x0 (0 : Int32) G).bind fun q => gLet q fun G5 => 
  k_X11_remembers_40 τ n x0  G5)
  else (gLet (gsi G 11 7 x0 ((gi G 11 7 x0) + (1 : Int32))) fun G11 =>
  k_X11_remembers_53 τ n x0  G11)
set_option maxHeartbeats 4000000 in
set_option maxRecDepth 100000 in
theorem w_b_X11_remembers_11 {X : gX} {τ : gτ} {p : Program} {l : Launch} {e : Env} {s : State} {m : MethodId} {args : Array Value} {below : List Frame} {meth : Method} {c : Code} (fx : gFx X p s m args meth c cX11_remembers 2 RX11) (n : Nat) (x0 : Nat) (x1 : Int32) (h0 : gK τ x0 11) {Q : State → Prop} {K : ((Int32 × gG) ⊕ ((gG))) → Prop} {G : gG} {H : Heap} {locs : List Loc} {ls : Array Slot} (hw : gHw X τ G H locs) (hl : lv_has ls 2 [(0, .ref x0), (1, .int x1)]) (hok : gOk (b_X11_remembers_11 τ n x0 x1 G) K) (hc : ∀ (y1 : Int32) (G : gG) (H : Heap) (locs : List Loc) (ls : Array Slot), gHw X τ G H locs → lv_has ls 2 [(0, .ref x0), (1, .int y1)] → K (.inl (y1, G)) → W p l e rm_X11_remembers s m args below meth c H locs 0 0 Q (F0 m 11 ls [])) (hx0 : ∀ (G : gG) (H : Heap) (locs : List Loc) (ls : Array Slot), gHw X τ G H locs → lv_has ls 2 [(0, .ref x0)] → K (.inr G) → W p l e rm_X11_remembers s m args below meth c H locs 0 0 Q (F0 m 40 ls [])) : W p l e rm_X11_remembers s m args below meth c H locs 0 0 Q (F0 m 11 ls []) := by
  unfold b_X11_remembers_11 at hok
  refine lv_iload_n fx.1 fx.2.1 dX11_remembers_11 rfl (lv_at hl 1 rfl) ?_
  refine lv_sipush (v := 5137) fx.1 fx.2.1 dX11_remembers_12 (by decide) ?_
  refine g_icmp_ge (tgt := 40) fx dX11_remembers_15 (by decide) hok (fun hok => ?_) (fun hok => ?_)
  · exact hx0  G _ _ _  hw (lv_sub hl [0] rfl) (gOk_some hok)
  · refine lv_aload_n fx.1 fx.2.1 dX11_remembers_18 rfl (lv_at hl 0 rfl) ?_
    refine g_getr fx hw h0 lf_RX11_26 rfl dX11_remembers_19 hok (fun a1 h_a1 hok => ?_)
    refine lv_iload_n fx.1 fx.2.1 dX11_remembers_22 rfl (lv_at hl 1 rfl) ?_
    refine lv_aload_n fx.1 fx.2.1 dX11_remembers_23 rfl (lv_at hl 0 rfl) ?_
    refine g_getr fx hw h0 lf_RX11_26 rfl dX11_remembers_24 hok (fun a2 h_a2 hok => ?_)
    refine lv_iload_n fx.1 fx.2.1 dX11_remembers_27 rfl (lv_at hl 1 rfl) ?_
    refine lv_sipush (v := 467) fx.1 fx.2.1 dX11_remembers_28 (by decide) ?_
    refine lv_iadd fx.1 fx.2.1 dX11_remembers_31 ?_
    refine g_iald fx hw h_a2 dX11_remembers_32 hok (fun hok => ?_)
    refine g_iast fx hw h_a1 dX11_remembers_33 hok (fun G3 H locs hw hok => ?_)
    obtain ⟨v4, e_v4, hok⟩ := gOk_let hok
    refine lv_iinc (v := v4) (lv' := [(1, .int v4), (0, .ref x0)]) fx.1 fx.2.1 dX11_remembers_34 hl (k := 1) rfl (by rw [e_v4]; rfl) (by decide) rfl (fun ls hl => ?_)
    refine lv_goto (tgt := 11) fx.1 fx.2.1 dX11_remembers_37 (by decide) ?_
    exact hc v4 G3 _ _ _  hw (lv_sub hl [1, 0] rfl) (gOk_some hok)
theorem w_l_X11_remembers_11 {X : gX} {τ : gτ} {p : Program} {l : Launch} {e : Env} {s : State} {m : MethodId} {args : Array Value} {below : List Frame} {meth : Method} {c : Code} (fx : gFx X p s m args meth c cX11_remembers 2 RX11) (n : Nat) (x0 : Nat) (h0 : gK τ x0 11) {Q : State → Prop} {K : ((gG)) → Prop} (hx0 : ∀ (G : gG) (H : Heap) (locs : List Loc) (ls : Array Slot), gHw X τ G H locs → lv_has ls 2 [(0, .ref x0)] → K G → W p l e rm_X11_remembers s m args below meth c H locs 0 0 Q (F0 m 40 ls [])) : ∀ (k : Nat) (x1 : Int32) (G : gG) (H : Heap) (locs : List Loc) (ls : Array Slot), gHw X τ G H locs → lv_has ls 2 [(0, .ref x0), (1, .int x1)] → gOk (gIter (fun (q : Int32 × gG) => b_X11_remembers_11 τ n x0 q.1 q.2) k (x1, G)) K → W p l e rm_X11_remembers s m args below meth c H locs 0 0 Q (F0 m 11 ls []) := by
  intro k
  induction k with
  | zero =>
    intro x1 G H locs ls hw hl hok
    exact gOk_iter0 hok
  | succ k hc =>
    intro x1 G H locs ls hw hl hok
    exact w_b_X11_remembers_11 fx n x0 x1 h0 hw hl (gOk_iter hok) hc hx0
set_option maxHeartbeats 4000000 in
set_option maxRecDepth 100000 in
theorem w_b_X11_remembers_55 {X : gX} {τ : gτ} {p : Program} {l : Launch} {e : Env} {s : State} {m : MethodId} {args : Array Value} {below : List Frame} {meth : Method} {c : Code} (fx : gFx X p s m args meth c cX11_remembers 2 RX11) (n : Nat) (x0 : Nat) (x1 : Int32) (h0 : gK τ x0 11) {Q : State → Prop} {K : ((Int32 × gG) ⊕ ((gG))) → Prop} {G : gG} {H : Heap} {locs : List Loc} {ls : Array Slot} (hw : gHw X τ G H locs) (hl : lv_has ls 2 [(0, .ref x0), (1, .int x1)]) (hok : gOk (b_X11_remembers_55 τ n x0 x1 G) K) (hc : ∀ (y1 : Int32) (G : gG) (H : Heap) (locs : List Loc) (ls : Array Slot), gHw X τ G H locs → lv_has ls 2 [(0, .ref x0), (1, .int y1)] → K (.inl (y1, G)) → W p l e rm_X11_remembers s m args below meth c H locs 0 0 Q (F0 m 55 ls [])) (hx0 : ∀ (G : gG) (H : Heap) (locs : List Loc) (ls : Array Slot), gHw X τ G H locs → lv_has ls 2 [] → K (.inr G) → W p l e rm_X11_remembers s m args below meth c H locs 0 0 Q (F0 m 91 ls [])) : W p l e rm_X11_remembers s m args below meth c H locs 0 0 Q (F0 m 55 ls []) := by
  unfold b_X11_remembers_55 at hok
  refine lv_iload_n fx.1 fx.2.1 dX11_remembers_55 rfl (lv_at hl 1 rfl) ?_
  refine lv_sipush (v := 467) fx.1 fx.2.1 dX11_remembers_56 (by decide) ?_
  refine g_icmp_ge (tgt := 91) fx dX11_remembers_59 (by decide) hok (fun hok => ?_) (fun hok => ?_)
  · exact hx0  G _ _ _  hw (lv_sub hl [] rfl) (gOk_some hok)
  · refine lv_aload_n fx.1 fx.2.1 dX11_remembers_62 rfl (lv_at hl 0 rfl) ?_
    refine g_getr fx hw h0 lf_RX11_26 rfl dX11_remembers_63 hok (fun a6 h_a6 hok => ?_)
    refine lv_sipush (v := 467) fx.1 fx.2.1 dX11_remembers_66 (by decide) ?_
    refine lv_aload_n fx.1 fx.2.1 dX11_remembers_69 rfl (lv_at hl 0 rfl) ?_
    refine g_geti fx hw h0 lf_RX11_52 rfl dX11_remembers_70 ?_
    refine lv_iconst (v := 1) fx.1 fx.2.1 dX11_remembers_73 (by decide) ?_
    refine lv_isub fx.1 fx.2.1 dX11_remembers_74 ?_
    refine lv_imul fx.1 fx.2.1 dX11_remembers_75 ?_
    refine lv_iload_n fx.1 fx.2.1 dX11_remembers_76 rfl (lv_at hl 1 rfl) ?_
    refine lv_iadd fx.1 fx.2.1 dX11_remembers_77 ?_
    refine lv_aload_n fx.1 fx.2.1 dX11_remembers_78 rfl (lv_at hl 0 rfl) ?_
    refine g_getr fx hw h0 lf_RX11_13 rfl dX11_remembers_79 hok (fun a7 h_a7 hok => ?_)
    refine lv_iload_n fx.1 fx.2.1 dX11_remembers_82 rfl (lv_at hl 1 rfl) ?_
    refine g_iald fx hw h_a7 dX11_remembers_83 hok (fun hok => ?_)
    refine g_iast fx hw h_a6 dX11_remembers_84 hok (fun G8 H locs hw hok => ?_)
    obtain ⟨v9, e_v9, hok⟩ := gOk_let hok
    refine lv_iinc (v := v9) (lv' := [(1, .int v9), (0, .ref x0)]) fx.1 fx.2.1 dX11_remembers_85 hl (k := 1) rfl (by rw [e_v9]; rfl) (by decide) rfl (fun ls hl => ?_)
    refine lv_goto (tgt := 55) fx.1 fx.2.1 dX11_remembers_88 (by decide) ?_
    exact hc v9 G8 _ _ _  hw (lv_sub hl [1, 0] rfl) (gOk_some hok)
theorem w_l_X11_remembers_55 {X : gX} {τ : gτ} {p : Program} {l : Launch} {e : Env} {s : State} {m : MethodId} {args : Array Value} {below : List Frame} {meth : Method} {c : Code} (fx : gFx X p s m args meth c cX11_remembers 2 RX11) (n : Nat) (x0 : Nat) (h0 : gK τ x0 11) {Q : State → Prop} {K : ((gG)) → Prop} (hx0 : ∀ (G : gG) (H : Heap) (locs : List Loc) (ls : Array Slot), gHw X τ G H locs → lv_has ls 2 [] → K G → W p l e rm_X11_remembers s m args below meth c H locs 0 0 Q (F0 m 91 ls [])) : ∀ (k : Nat) (x1 : Int32) (G : gG) (H : Heap) (locs : List Loc) (ls : Array Slot), gHw X τ G H locs → lv_has ls 2 [(0, .ref x0), (1, .int x1)] → gOk (gIter (fun (q : Int32 × gG) => b_X11_remembers_55 τ n x0 q.1 q.2) k (x1, G)) K → W p l e rm_X11_remembers s m args below meth c H locs 0 0 Q (F0 m 55 ls []) := by
  intro k
  induction k with
  | zero =>
    intro x1 G H locs ls hw hl hok
    exact gOk_iter0 hok
  | succ k hc =>
    intro x1 G H locs ls hw hl hok
    exact w_b_X11_remembers_55 fx n x0 x1 h0 hw hl (gOk_iter hok) hc hx0
set_option maxHeartbeats 4000000 in
set_option maxRecDepth 100000 in
theorem w_X11_remembers_53 {X : gX} {τ : gτ} {p : Program} {l : Launch} {e : Env} {s : State} {m : MethodId} {args : Array Value} {below : List Frame} {meth : Method} {c : Code} (fx : gFx X p s m args meth c cX11_remembers 2 RX11) (n : Nat) (x0 : Nat)  (h0 : gK τ x0 11)  (hr : meth.sig.returnType = none) {G' : gG} {G : gG} {H : Heap} {locs : List Loc} {ls : Array Slot} (hw : gHw X τ G H locs) (hl : lv_has ls 2 [(0, .ref x0)]) (hok : gOk (k_X11_remembers_53 τ n x0  G) (fun q => q = G'))  : W p l e rm_X11_remembers s m args below meth c H locs 0 0 (MQ below (gQ X τ none G') args s 0 0 (gFree X)) (F0 m 53 ls []) := by
  unfold k_X11_remembers_53 at hok
  refine lv_iconst (v := 0) fx.1 fx.2.1 dX11_remembers_53 (by decide) ?_
  refine lv_istore_n (lv' := [(1, .int (0 : Int32)), (0, .ref x0)]) fx.1 fx.2.1 dX11_remembers_54 rfl hl (by decide) rfl (fun ls hl => ?_)
  refine w_l_X11_remembers_55 fx n x0 h0 ?_ n (0 : Int32) G _ _ _  hw (lv_sub hl [1, 0] rfl) (gOk_bindK hok)
  intro G10 H locs ls hw hl hok
  have hok : gOk (ρ := gG) (some G10) _ := hok
  cases gOk_some hok
  exact g_vret fx hw hr dX11_remembers_91
set_option maxHeartbeats 4000000 in
set_option maxRecDepth 100000 in
theorem w_X11_remembers_40 {X : gX} {τ : gτ} {p : Program} {l : Launch} {e : Env} {s : State} {m : MethodId} {args : Array Value} {below : List Frame} {meth : Method} {c : Code} (fx : gFx X p s m args meth c cX11_remembers 2 RX11) (n : Nat) (x0 : Nat)  (h0 : gK τ x0 11)  (hr : meth.sig.returnType = none) {G' : gG} {G : gG} {H : Heap} {locs : List Loc} {ls : Array Slot} (hw : gHw X τ G H locs) (hl : lv_has ls 2 [(0, .ref x0)]) (hok : gOk (k_X11_remembers_40 τ n x0  G) (fun q => q = G'))  : W p l e rm_X11_remembers s m args below meth c H locs 0 0 (MQ below (gQ X τ none G') args s 0 0 (gFree X)) (F0 m 40 ls []) := by
  unfold k_X11_remembers_40 at hok
  refine lv_goto (tgt := 53) fx.1 fx.2.1 dX11_remembers_40 (by decide) ?_
  exact w_X11_remembers_53 fx n x0  h0  hr hw (lv_sub hl [0] rfl) hok
set_option maxHeartbeats 4000000 in
set_option maxRecDepth 100000 in
theorem c_X11_remembers (l : Launch) (X : gX) (τ : gτ) (n : Nat) (x0 : Nat) (G : gG) (h0 : gK τ x0 11) {G' : gG} (h : f_X11_remembers τ n x0 G = some G') : gM l X τ yX11_remembers cX11_remembers 2 none rm_X11_remembers [.ref x0] G none G' := by
  refine g_body (by decide +kernel) (Nat.le_of_ble_eq_true rfl) ?_
  intro p e s m args below meth c ls fx hr hw hl
  have fx : gFx X p s m args meth c cX11_remembers 2 RX11 := fx
  have hl : lv_has ls 2 [(0, .ref x0)] := hl
  have hok : gOk (f_X11_remembers τ n x0 G) (fun q => q = G') := ⟨_, h, rfl⟩
  unfold f_X11_remembers at hok
  show W p l e rm_X11_remembers s m args below meth c s.heap [] 0 0 (MQ below (gQ X τ none G') args s 0 0 (gFree X)) _
  refine lv_aload_n fx.1 fx.2.1 dX11_remembers_0 rfl (lv_at hl 0 rfl) ?_
  refine g_geti fx hw h0 lf_RX11_52 rfl dX11_remembers_1 ?_
  refine lv_bipush (v := 12) fx.1 fx.2.1 dX11_remembers_4 (by decide) ?_
  refine g_icmp_ne (tgt := 43) fx dX11_remembers_6 (by decide) hok (fun hok => ?_) (fun hok => ?_)
  · refine lv_iconst (v := 0) fx.1 fx.2.1 dX11_remembers_9 (by decide) ?_
    refine lv_istore_n (lv' := [(1, .int (0 : Int32)), (0, .ref x0)]) fx.1 fx.2.1 dX11_remembers_10 rfl hl (by decide) rfl (fun ls hl => ?_)
    refine w_l_X11_remembers_11 fx n x0 h0 ?_ n (0 : Int32) G _ _ _  hw (lv_sub hl [1, 0] rfl) (gOk_bindK hok)
    intro G5 H locs ls hw hl hok
    have hok : gOk (ρ := gG) (k_X11_remembers_40 τ n x0  G5) _ := hok
    exact w_X11_remembers_40 fx n x0  h0  hr hw (lv_sub hl [0] rfl) hok
  · refine lv_aload_n fx.1 fx.2.1 dX11_remembers_43 rfl (lv_at hl 0 rfl) ?_
    refine lv_dup fx.1 fx.2.1 dX11_remembers_44 rfl ?_
    refine g_geti fx hw h0 lf_RX11_52 rfl dX11_remembers_45 ?_
    refine lv_iconst (v := 1) fx.1 fx.2.1 dX11_remembers_48 (by decide) ?_
    refine lv_iadd fx.1 fx.2.1 dX11_remembers_49 ?_
    refine g_puti fx hw h0 lp_RX11_52 rfl rfl dX11_remembers_50 hok (fun G11 H locs hw hok => ?_)
    exact w_X11_remembers_53 fx n x0  h0  hr hw (lv_sub hl [0] rfl) hok
theorem dX11_undo_0 : decode cX11_undo 0 = .ok (.aload_n 0, 1) := by decide +kernel
theorem dX11_undo_1 : decode cX11_undo 1 = .ok (.iconst 0, 1) := by decide +kernel
theorem dX11_undo_2 : decode cX11_undo 2 = .ok (.putfield 3, 3) := by decide +kernel
theorem dX11_undo_5 : decode cX11_undo 5 = .ok (.aload_n 0, 1) := by decide +kernel
theorem dX11_undo_6 : decode cX11_undo 6 = .ok (.getfield 52, 3) := by decide +kernel
theorem dX11_undo_9 : decode cX11_undo 9 = .ok (.ifCond .ne 5, 3) := by decide +kernel
theorem dX11_undo_12 : decode cX11_undo 12 = .ok (.iconst 0, 1) := by decide +kernel
theorem dX11_undo_13 : decode cX11_undo 13 = .ok (.ireturn, 1) := by decide +kernel
theorem dX11_undo_14 : decode cX11_undo 14 = .ok (.aload_n 0, 1) := by decide +kernel
theorem dX11_undo_15 : decode cX11_undo 15 = .ok (.dup, 1) := by decide +kernel
theorem dX11_undo_16 : decode cX11_undo 16 = .ok (.getfield 52, 3) := by decide +kernel
theorem dX11_undo_19 : decode cX11_undo 19 = .ok (.iconst 1, 1) := by decide +kernel
theorem dX11_undo_20 : decode cX11_undo 20 = .ok (.isub, 1) := by decide +kernel
theorem dX11_undo_21 : decode cX11_undo 21 = .ok (.putfield 52, 3) := by decide +kernel
theorem dX11_undo_24 : decode cX11_undo 24 = .ok (.iconst 0, 1) := by decide +kernel
theorem dX11_undo_25 : decode cX11_undo 25 = .ok (.istore_n 1, 1) := by decide +kernel
theorem dX11_undo_26 : decode cX11_undo 26 = .ok (.iload_n 1, 1) := by decide +kernel
theorem dX11_undo_27 : decode cX11_undo 27 = .ok (.sipush 467, 3) := by decide +kernel
theorem dX11_undo_30 : decode cX11_undo 30 = .ok (.if_icmp .ge 30, 3) := by decide +kernel
theorem dX11_undo_33 : decode cX11_undo 33 = .ok (.aload_n 0, 1) := by decide +kernel
theorem dX11_undo_34 : decode cX11_undo 34 = .ok (.getfield 13, 3) := by decide +kernel
theorem dX11_undo_37 : decode cX11_undo 37 = .ok (.iload_n 1, 1) := by decide +kernel
theorem dX11_undo_38 : decode cX11_undo 38 = .ok (.aload_n 0, 1) := by decide +kernel
theorem dX11_undo_39 : decode cX11_undo 39 = .ok (.getfield 26, 3) := by decide +kernel
theorem dX11_undo_42 : decode cX11_undo 42 = .ok (.sipush 467, 3) := by decide +kernel
theorem dX11_undo_45 : decode cX11_undo 45 = .ok (.aload_n 0, 1) := by decide +kernel
theorem dX11_undo_46 : decode cX11_undo 46 = .ok (.getfield 52, 3) := by decide +kernel
theorem dX11_undo_49 : decode cX11_undo 49 = .ok (.imul, 1) := by decide +kernel
theorem dX11_undo_50 : decode cX11_undo 50 = .ok (.iload_n 1, 1) := by decide +kernel
theorem dX11_undo_51 : decode cX11_undo 51 = .ok (.iadd, 1) := by decide +kernel
theorem dX11_undo_52 : decode cX11_undo 52 = .ok (.iaload, 1) := by decide +kernel
theorem dX11_undo_53 : decode cX11_undo 53 = .ok (.iastore, 1) := by decide +kernel
theorem dX11_undo_54 : decode cX11_undo 54 = .ok (.iinc 1 1, 3) := by decide +kernel
theorem dX11_undo_57 : decode cX11_undo 57 = .ok (.goto (-31), 3) := by decide +kernel
theorem dX11_undo_60 : decode cX11_undo 60 = .ok (.iconst 1, 1) := by decide +kernel
theorem dX11_undo_61 : decode cX11_undo 61 = .ok (.ireturn, 1) := by decide +kernel
def rm_X11_undo : Room := { frames := 0, cells := 0, slots := 0, locals := 0 }
def b_X11_undo_26 (τ : gτ) (n : Nat) (x0 : Nat) (x1 : Int32) (G : gG) : Option ((Int32 × gG) ⊕ ((gG))) :=
  if (467 : Int32) ≤ x1 then (some (.inr G))
  else ((gr G 11 1 x0).bind fun a3 =>
  (gr G 11 5 x0).bind fun a4 =>
  gchk (gIn (((467 : Int32) * (gi G 11 7 x0)) + x1) (gn τ a4)) <|
  gchk (gIn x1 (gn τ a3)) <| gLet (gse G a3 (Int32.toNatClampNeg x1) (ge G a4 (Int32.toNatClampNeg (((467 : Int32) * (gi G 11 7 x0)) + x1)))) fun G5 =>
  gLet (x1 + 1) fun v6 =>
  some (.inl (v6, G5)))
def l_X11_undo_26 (τ : gτ) (n : Nat) (x0 : Nat) (x1 : Int32) (G : gG) : Option ((gG)) :=
  gIter (fun (q : Int32 × gG) => b_X11_undo_26 τ n x0 q.1 q.2) n (x1, G)
def f_X11_undo (τ : gτ) (n : Nat) (x0 : Nat) (G : gG) : Option (Int32 × gG) :=
  gLet (gsi G 11 0 x0 (0 : Int32)) fun G1 =>
  if (gi G1 11 7 x0) = 0 then (some (0, G1))
  else (gLet (gsi G1 11 7 x0 ((gi G1 11 7 x0) - (1 : Int32))) fun G2 =>
  (l_X11_undo_26 τ n x0 (0 : Int32) G2).bind fun q => gLet q fun G7 => 
  some (1, G7))
set_option maxHeartbeats 4000000 in
set_option maxRecDepth 100000 in
theorem w_b_X11_undo_26 {X : gX} {τ : gτ} {p : Program} {l : Launch} {e : Env} {s : State} {m : MethodId} {args : Array Value} {below : List Frame} {meth : Method} {c : Code} (fx : gFx X p s m args meth c cX11_undo 2 RX11) (n : Nat) (x0 : Nat) (x1 : Int32) (h0 : gK τ x0 11) {Q : State → Prop} {K : ((Int32 × gG) ⊕ ((gG))) → Prop} {G : gG} {H : Heap} {locs : List Loc} {ls : Array Slot} (hw : gHw X τ G H locs) (hl : lv_has ls 2 [(0, .ref x0), (1, .int x1)]) (hok : gOk (b_X11_undo_26 τ n x0 x1 G) K) (hc : ∀ (y1 : Int32) (G : gG) (H : Heap) (locs : List Loc) (ls : Array Slot), gHw X τ G H locs → lv_has ls 2 [(0, .ref x0), (1, .int y1)] → K (.inl (y1, G)) → W p l e rm_X11_undo s m args below meth c H locs 0 0 Q (F0 m 26 ls [])) (hx0 : ∀ (G : gG) (H : Heap) (locs : List Loc) (ls : Array Slot), gHw X τ G H locs → lv_has ls 2 [] → K (.inr G) → W p l e rm_X11_undo s m args below meth c H locs 0 0 Q (F0 m 60 ls [])) : W p l e rm_X11_undo s m args below meth c H locs 0 0 Q (F0 m 26 ls []) := by
  unfold b_X11_undo_26 at hok
  refine lv_iload_n fx.1 fx.2.1 dX11_undo_26 rfl (lv_at hl 1 rfl) ?_
  refine lv_sipush (v := 467) fx.1 fx.2.1 dX11_undo_27 (by decide) ?_
  refine g_icmp_ge (tgt := 60) fx dX11_undo_30 (by decide) hok (fun hok => ?_) (fun hok => ?_)
  · exact hx0  G _ _ _  hw (lv_sub hl [] rfl) (gOk_some hok)
  · refine lv_aload_n fx.1 fx.2.1 dX11_undo_33 rfl (lv_at hl 0 rfl) ?_
    refine g_getr fx hw h0 lf_RX11_13 rfl dX11_undo_34 hok (fun a3 h_a3 hok => ?_)
    refine lv_iload_n fx.1 fx.2.1 dX11_undo_37 rfl (lv_at hl 1 rfl) ?_
    refine lv_aload_n fx.1 fx.2.1 dX11_undo_38 rfl (lv_at hl 0 rfl) ?_
    refine g_getr fx hw h0 lf_RX11_26 rfl dX11_undo_39 hok (fun a4 h_a4 hok => ?_)
    refine lv_sipush (v := 467) fx.1 fx.2.1 dX11_undo_42 (by decide) ?_
    refine lv_aload_n fx.1 fx.2.1 dX11_undo_45 rfl (lv_at hl 0 rfl) ?_
    refine g_geti fx hw h0 lf_RX11_52 rfl dX11_undo_46 ?_
    refine lv_imul fx.1 fx.2.1 dX11_undo_49 ?_
    refine lv_iload_n fx.1 fx.2.1 dX11_undo_50 rfl (lv_at hl 1 rfl) ?_
    refine lv_iadd fx.1 fx.2.1 dX11_undo_51 ?_
    refine g_iald fx hw h_a4 dX11_undo_52 hok (fun hok => ?_)
    refine g_iast fx hw h_a3 dX11_undo_53 hok (fun G5 H locs hw hok => ?_)
    obtain ⟨v6, e_v6, hok⟩ := gOk_let hok
    refine lv_iinc (v := v6) (lv' := [(1, .int v6), (0, .ref x0)]) fx.1 fx.2.1 dX11_undo_54 hl (k := 1) rfl (by rw [e_v6]; rfl) (by decide) rfl (fun ls hl => ?_)
    refine lv_goto (tgt := 26) fx.1 fx.2.1 dX11_undo_57 (by decide) ?_
    exact hc v6 G5 _ _ _  hw (lv_sub hl [1, 0] rfl) (gOk_some hok)
theorem w_l_X11_undo_26 {X : gX} {τ : gτ} {p : Program} {l : Launch} {e : Env} {s : State} {m : MethodId} {args : Array Value} {below : List Frame} {meth : Method} {c : Code} (fx : gFx X p s m args meth c cX11_undo 2 RX11) (n : Nat) (x0 : Nat) (h0 : gK τ x0 11) {Q : State → Prop} {K : ((gG)) → Prop} (hx0 : ∀ (G : gG) (H : Heap) (locs : List Loc) (ls : Array Slot), gHw X τ G H locs → lv_has ls 2 [] → K G → W p l e rm_X11_undo s m args below meth c H locs 0 0 Q (F0 m 60 ls [])) : ∀ (k : Nat) (x1 : Int32) (G : gG) (H : Heap) (locs : List Loc) (ls : Array Slot), gHw X τ G H locs → lv_has ls 2 [(0, .ref x0), (1, .int x1)] → gOk (gIter (fun (q : Int32 × gG) => b_X11_undo_26 τ n x0 q.1 q.2) k (x1, G)) K → W p l e rm_X11_undo s m args below meth c H locs 0 0 Q (F0 m 26 ls []) := by
  intro k
  induction k with
  | zero =>
    intro x1 G H locs ls hw hl hok
    exact gOk_iter0 hok
  | succ k hc =>
    intro x1 G H locs ls hw hl hok
    exact w_b_X11_undo_26 fx n x0 x1 h0 hw hl (gOk_iter hok) hc hx0
set_option maxHeartbeats 4000000 in
set_option maxRecDepth 100000 in
theorem c_X11_undo (l : Launch) (X : gX) (τ : gτ) (n : Nat) (x0 : Nat) (G : gG) (h0 : gK τ x0 11) {r : Int32} {G' : gG} (h : f_X11_undo τ n x0 G = some (r, G')) : gM l X τ yX11_undo cX11_undo 2 (some .boolean) rm_X11_undo [.ref x0] G (some (.int r)) G' := by
  refine g_body (by decide +kernel) (Nat.le_of_ble_eq_true rfl) ?_
  intro p e s m args below meth c ls fx hr hw hl
  have fx : gFx X p s m args meth c cX11_undo 2 RX11 := fx
  have hl : lv_has ls 2 [(0, .ref x0)] := hl
  have hok : gOk (f_X11_undo τ n x0 G) (fun q => q = (r, G')) := ⟨_, h, rfl⟩
  unfold f_X11_undo at hok
  show W p l e rm_X11_undo s m args below meth c s.heap [] 0 0 (MQ below (gQ X τ (some (.int r)) G') args s 0 0 (gFree X)) _
  refine lv_aload_n fx.1 fx.2.1 dX11_undo_0 rfl (lv_at hl 0 rfl) ?_
  refine lv_iconst (v := 0) fx.1 fx.2.1 dX11_undo_1 (by decide) ?_
  refine g_puti fx hw h0 lp_RX11_3 rfl rfl dX11_undo_2 hok (fun G1 H locs hw hok => ?_)
  refine lv_aload_n fx.1 fx.2.1 dX11_undo_5 rfl (lv_at hl 0 rfl) ?_
  refine g_geti fx hw h0 lf_RX11_52 rfl dX11_undo_6 ?_
  refine g_if_ne (tgt := 14) fx dX11_undo_9 (by decide) hok (fun hok => ?_) (fun hok => ?_)
  · refine lv_iconst (v := 0) fx.1 fx.2.1 dX11_undo_12 (by decide) ?_
    cases gOk_some hok
    exact g_zret fx hw hr (by decide) dX11_undo_13
  · refine lv_aload_n fx.1 fx.2.1 dX11_undo_14 rfl (lv_at hl 0 rfl) ?_
    refine lv_dup fx.1 fx.2.1 dX11_undo_15 rfl ?_
    refine g_geti fx hw h0 lf_RX11_52 rfl dX11_undo_16 ?_
    refine lv_iconst (v := 1) fx.1 fx.2.1 dX11_undo_19 (by decide) ?_
    refine lv_isub fx.1 fx.2.1 dX11_undo_20 ?_
    refine g_puti fx hw h0 lp_RX11_52 rfl rfl dX11_undo_21 hok (fun G2 H locs hw hok => ?_)
    refine lv_iconst (v := 0) fx.1 fx.2.1 dX11_undo_24 (by decide) ?_
    refine lv_istore_n (lv' := [(1, .int (0 : Int32)), (0, .ref x0)]) fx.1 fx.2.1 dX11_undo_25 rfl hl (by decide) rfl (fun ls hl => ?_)
    refine w_l_X11_undo_26 fx n x0 h0 ?_ n (0 : Int32) G2 _ _ _  hw (lv_sub hl [1, 0] rfl) (gOk_bindK hok)
    intro G7 H locs ls hw hl hok
    have hok : gOk (ρ := Int32 × gG) (some (1, G7)) _ := hok
    refine lv_iconst (v := 1) fx.1 fx.2.1 dX11_undo_60 (by decide) ?_
    cases gOk_some hok
    exact g_zret fx hw hr (by decide) dX11_undo_61
theorem dX11_yarns_0 : decode cX11_yarns 0 = .ok (.aload_n 0, 1) := by decide +kernel
theorem dX11_yarns_1 : decode cX11_yarns 1 = .ok (.getfield 13, 3) := by decide +kernel
theorem dX11_yarns_4 : decode cX11_yarns 4 = .ok (.iconst 0, 1) := by decide +kernel
theorem dX11_yarns_5 : decode cX11_yarns 5 = .ok (.iaload, 1) := by decide +kernel
theorem dX11_yarns_6 : decode cX11_yarns 6 = .ok (.ireturn, 1) := by decide +kernel
def rm_X11_yarns : Room := { frames := 0, cells := 0, slots := 0, locals := 0 }
def f_X11_yarns (τ : gτ) (x0 : Nat) (G : gG) : Option (Int32) :=
  (gr G 11 1 x0).bind fun a1 =>
  gchk (gIn (0 : Int32) (gn τ a1)) <|
  some (ge G a1 (Int32.toNatClampNeg (0 : Int32)))
set_option maxHeartbeats 4000000 in
set_option maxRecDepth 100000 in
theorem c_X11_yarns (l : Launch) (X : gX) (τ : gτ) (x0 : Nat) (G : gG) (h0 : gK τ x0 11) {r : Int32}  (h : f_X11_yarns τ x0 G = some r) : gM l X τ yX11_yarns cX11_yarns 1 (some .int) rm_X11_yarns [.ref x0] G (some (.int r)) G := by
  refine g_body (by decide +kernel) (Nat.le_of_ble_eq_true rfl) ?_
  intro p e s m args below meth c ls fx hr hw hl
  have fx : gFx X p s m args meth c cX11_yarns 1 RX11 := fx
  have hl : lv_has ls 1 [(0, .ref x0)] := hl
  have hok : gOk (f_X11_yarns τ x0 G) (fun q => q = r) := ⟨_, h, rfl⟩
  unfold f_X11_yarns at hok
  show W p l e rm_X11_yarns s m args below meth c s.heap [] 0 0 (MQ below (gQ X τ (some (.int r)) G) args s 0 0 (gFree X)) _
  refine lv_aload_n fx.1 fx.2.1 dX11_yarns_0 rfl (lv_at hl 0 rfl) ?_
  refine g_getr fx hw h0 lf_RX11_13 rfl dX11_yarns_1 hok (fun a1 h_a1 hok => ?_)
  refine lv_iconst (v := 0) fx.1 fx.2.1 dX11_yarns_4 (by decide) ?_
  refine g_iald fx hw h_a1 dX11_yarns_5 hok (fun hok => ?_)
  cases gOk_some hok
  exact g_iret fx hw hr dX11_yarns_6
theorem dX11_ropes_0 : decode cX11_ropes 0 = .ok (.aload_n 0, 1) := by decide +kernel
theorem dX11_ropes_1 : decode cX11_ropes 1 = .ok (.getfield 13, 3) := by decide +kernel
theorem dX11_ropes_4 : decode cX11_ropes 4 = .ok (.iconst 1, 1) := by decide +kernel
theorem dX11_ropes_5 : decode cX11_ropes 5 = .ok (.iaload, 1) := by decide +kernel
theorem dX11_ropes_6 : decode cX11_ropes 6 = .ok (.ireturn, 1) := by decide +kernel
def rm_X11_ropes : Room := { frames := 0, cells := 0, slots := 0, locals := 0 }
def f_X11_ropes (τ : gτ) (x0 : Nat) (G : gG) : Option (Int32) :=
  (gr G 11 1 x0).bind fun a1 =>
  gchk (gIn (1 : Int32) (gn τ a1)) <|
  some (ge G a1 (Int32.toNatClampNeg (1 : Int32)))
set_option maxHeartbeats 4000000 in
set_option maxRecDepth 100000 in
theorem c_X11_ropes (l : Launch) (X : gX) (τ : gτ) (x0 : Nat) (G : gG) (h0 : gK τ x0 11) {r : Int32}  (h : f_X11_ropes τ x0 G = some r) : gM l X τ yX11_ropes cX11_ropes 1 (some .int) rm_X11_ropes [.ref x0] G (some (.int r)) G := by
  refine g_body (by decide +kernel) (Nat.le_of_ble_eq_true rfl) ?_
  intro p e s m args below meth c ls fx hr hw hl
  have fx : gFx X p s m args meth c cX11_ropes 1 RX11 := fx
  have hl : lv_has ls 1 [(0, .ref x0)] := hl
  have hok : gOk (f_X11_ropes τ x0 G) (fun q => q = r) := ⟨_, h, rfl⟩
  unfold f_X11_ropes at hok
  show W p l e rm_X11_ropes s m args below meth c s.heap [] 0 0 (MQ below (gQ X τ (some (.int r)) G) args s 0 0 (gFree X)) _
  refine lv_aload_n fx.1 fx.2.1 dX11_ropes_0 rfl (lv_at hl 0 rfl) ?_
  refine g_getr fx hw h0 lf_RX11_13 rfl dX11_ropes_1 hok (fun a1 h_a1 hok => ?_)
  refine lv_iconst (v := 1) fx.1 fx.2.1 dX11_ropes_4 (by decide) ?_
  refine g_iald fx hw h_a1 dX11_ropes_5 hok (fun hok => ?_)
  cases gOk_some hok
  exact g_iret fx hw hr dX11_ropes_6
theorem dX11_orders_0 : decode cX11_orders 0 = .ok (.aload_n 0, 1) := by decide +kernel
theorem dX11_orders_1 : decode cX11_orders 1 = .ok (.getfield 13, 3) := by decide +kernel
theorem dX11_orders_4 : decode cX11_orders 4 = .ok (.iconst 2, 1) := by decide +kernel
theorem dX11_orders_5 : decode cX11_orders 5 = .ok (.iaload, 1) := by decide +kernel
theorem dX11_orders_6 : decode cX11_orders 6 = .ok (.ireturn, 1) := by decide +kernel
def rm_X11_orders : Room := { frames := 0, cells := 0, slots := 0, locals := 0 }
def f_X11_orders (τ : gτ) (x0 : Nat) (G : gG) : Option (Int32) :=
  (gr G 11 1 x0).bind fun a1 =>
  gchk (gIn (2 : Int32) (gn τ a1)) <|
  some (ge G a1 (Int32.toNatClampNeg (2 : Int32)))
set_option maxHeartbeats 4000000 in
set_option maxRecDepth 100000 in
theorem c_X11_orders (l : Launch) (X : gX) (τ : gτ) (x0 : Nat) (G : gG) (h0 : gK τ x0 11) {r : Int32}  (h : f_X11_orders τ x0 G = some r) : gM l X τ yX11_orders cX11_orders 1 (some .int) rm_X11_orders [.ref x0] G (some (.int r)) G := by
  refine g_body (by decide +kernel) (Nat.le_of_ble_eq_true rfl) ?_
  intro p e s m args below meth c ls fx hr hw hl
  have fx : gFx X p s m args meth c cX11_orders 1 RX11 := fx
  have hl : lv_has ls 1 [(0, .ref x0)] := hl
  have hok : gOk (f_X11_orders τ x0 G) (fun q => q = r) := ⟨_, h, rfl⟩
  unfold f_X11_orders at hok
  show W p l e rm_X11_orders s m args below meth c s.heap [] 0 0 (MQ below (gQ X τ (some (.int r)) G) args s 0 0 (gFree X)) _
  refine lv_aload_n fx.1 fx.2.1 dX11_orders_0 rfl (lv_at hl 0 rfl) ?_
  refine g_getr fx hw h0 lf_RX11_13 rfl dX11_orders_1 hok (fun a1 h_a1 hok => ?_)
  refine lv_iconst (v := 2) fx.1 fx.2.1 dX11_orders_4 (by decide) ?_
  refine g_iald fx hw h_a1 dX11_orders_5 hok (fun hok => ?_)
  cases gOk_some hok
  exact g_iret fx hw hr dX11_orders_6
theorem dX11_yarnAt_0 : decode cX11_yarnAt 0 = .ok (.bipush 13, 2) := by decide +kernel
theorem dX11_yarnAt_2 : decode cX11_yarnAt 2 = .ok (.iconst 4, 1) := by decide +kernel
theorem dX11_yarnAt_3 : decode cX11_yarnAt 3 = .ok (.iload_n 0, 1) := by decide +kernel
theorem dX11_yarnAt_4 : decode cX11_yarnAt 4 = .ok (.imul, 1) := by decide +kernel
theorem dX11_yarnAt_5 : decode cX11_yarnAt 5 = .ok (.iadd, 1) := by decide +kernel
theorem dX11_yarnAt_6 : decode cX11_yarnAt 6 = .ok (.iload_n 1, 1) := by decide +kernel
theorem dX11_yarnAt_7 : decode cX11_yarnAt 7 = .ok (.iadd, 1) := by decide +kernel
theorem dX11_yarnAt_8 : decode cX11_yarnAt 8 = .ok (.ireturn, 1) := by decide +kernel
def rm_X11_yarnAt : Room := { frames := 0, cells := 0, slots := 0, locals := 0 }
def f_X11_yarnAt (x0 : Int32) (x1 : Int32) : Option (Int32) :=
  some (((13 : Int32) + ((4 : Int32) * x0)) + x1)
set_option maxHeartbeats 4000000 in
set_option maxRecDepth 100000 in
theorem c_X11_yarnAt (l : Launch) (X : gX) (τ : gτ) (x0 : Int32) (x1 : Int32) (G : gG)  {r : Int32}  (h : f_X11_yarnAt x0 x1 = some r) : gM l X τ yX11_yarnAt cX11_yarnAt 2 (some .int) rm_X11_yarnAt [.int x0, .int x1] G (some (.int r)) G := by
  refine g_body (by decide +kernel) (Nat.le_of_ble_eq_true rfl) ?_
  intro p e s m args below meth c ls fx hr hw hl
  have fx : gFx X p s m args meth c cX11_yarnAt 2 RX11 := fx
  have hl : lv_has ls 2 [(0, .int x0), (1, .int x1)] := hl
  have hok : gOk (f_X11_yarnAt x0 x1) (fun q => q = r) := ⟨_, h, rfl⟩
  unfold f_X11_yarnAt at hok
  show W p l e rm_X11_yarnAt s m args below meth c s.heap [] 0 0 (MQ below (gQ X τ (some (.int r)) G) args s 0 0 (gFree X)) _
  refine lv_bipush (v := 13) fx.1 fx.2.1 dX11_yarnAt_0 (by decide) ?_
  refine lv_iconst (v := 4) fx.1 fx.2.1 dX11_yarnAt_2 (by decide) ?_
  refine lv_iload_n fx.1 fx.2.1 dX11_yarnAt_3 rfl (lv_at hl 0 rfl) ?_
  refine lv_imul fx.1 fx.2.1 dX11_yarnAt_4 ?_
  refine lv_iadd fx.1 fx.2.1 dX11_yarnAt_5 ?_
  refine lv_iload_n fx.1 fx.2.1 dX11_yarnAt_6 rfl (lv_at hl 1 rfl) ?_
  refine lv_iadd fx.1 fx.2.1 dX11_yarnAt_7 ?_
  cases gOk_some hok
  exact g_iret fx hw hr dX11_yarnAt_8
theorem dX11_ofYarn_0 : decode cX11_ofYarn 0 = .ok (.aload_n 0, 1) := by decide +kernel
theorem dX11_ofYarn_1 : decode cX11_ofYarn 1 = .ok (.getfield 13, 3) := by decide +kernel
theorem dX11_ofYarn_4 : decode cX11_ofYarn 4 = .ok (.iload_n 1, 1) := by decide +kernel
theorem dX11_ofYarn_5 : decode cX11_ofYarn 5 = .ok (.iload_n 2, 1) := by decide +kernel
theorem dX11_ofYarn_6 : decode cX11_ofYarn 6 = .ok (.invokestatic 55, 3) := by decide +kernel
theorem dX11_ofYarn_9 : decode cX11_ofYarn 9 = .ok (.iaload, 1) := by decide +kernel
theorem dX11_ofYarn_10 : decode cX11_ofYarn 10 = .ok (.ireturn, 1) := by decide +kernel
theorem ls_RX11_55 : gLs RX11 55 yX11_yarnAt cX11_yarnAt 2 (some .int) 2 := gLs_of (wA_t (wt7 (List.mem_of_getElem? (i := 116) (by decide +kernel))) (by decide +kernel)) (wA_t (wt7 (List.mem_of_getElem? (i := 117) (by decide +kernel))) (by decide +kernel)) (wA_t (wt1 (List.mem_of_getElem? (i := 12) (by decide +kernel))) (by decide +kernel)) (wA_t (wt7 (List.mem_of_getElem? (i := 118) (by decide +kernel))) (by decide +kernel)) ⟨by decide +kernel, by decide +kernel, by decide +kernel⟩
def rm_X11_ofYarn : Room := { frames := 1, cells := 0, slots := 0, locals := 21 }
def f_X11_ofYarn (τ : gτ) (x0 : Nat) (x1 : Int32) (x2 : Int32) (G : gG) : Option (Int32) :=
  (gr G 11 1 x0).bind fun a1 =>
  (f_X11_yarnAt x1 x2).bind fun v2 =>
  gchk (gIn v2 (gn τ a1)) <|
  some (ge G a1 (Int32.toNatClampNeg v2))
set_option maxHeartbeats 4000000 in
set_option maxRecDepth 100000 in
theorem c_X11_ofYarn (l : Launch) (X : gX) (τ : gτ) (x0 : Nat) (x1 : Int32) (x2 : Int32) (G : gG) (h0 : gK τ x0 11) {r : Int32}  (h : f_X11_ofYarn τ x0 x1 x2 G = some r) : gM l X τ yX11_ofYarn cX11_ofYarn 3 (some .int) rm_X11_ofYarn [.ref x0, .int x1, .int x2] G (some (.int r)) G := by
  refine g_body (by decide +kernel) (Nat.le_of_ble_eq_true rfl) ?_
  intro p e s m args below meth c ls fx hr hw hl
  have fx : gFx X p s m args meth c cX11_ofYarn 3 RX11 := fx
  have hl : lv_has ls 3 [(0, .ref x0), (1, .int x1), (2, .int x2)] := hl
  have hok : gOk (f_X11_ofYarn τ x0 x1 x2 G) (fun q => q = r) := ⟨_, h, rfl⟩
  unfold f_X11_ofYarn at hok
  show W p l e rm_X11_ofYarn s m args below meth c s.heap [] 0 0 (MQ below (gQ X τ (some (.int r)) G) args s 0 0 (gFree X)) _
  refine lv_aload_n fx.1 fx.2.1 dX11_ofYarn_0 rfl (lv_at hl 0 rfl) ?_
  refine g_getr fx hw h0 lf_RX11_13 rfl dX11_ofYarn_1 hok (fun a1 h_a1 hok => ?_)
  refine lv_iload_n fx.1 fx.2.1 dX11_ofYarn_4 rfl (lv_at hl 1 rfl) ?_
  refine lv_iload_n fx.1 fx.2.1 dX11_ofYarn_5 rfl (lv_at hl 2 rfl) ?_
  obtain ⟨v2, hf, hok⟩ := gOk_bind hok
  refine g_callS0 fx hw (c_X11_yarnAt l X τ x1 x2 G  hf) ls_RX11_55 ⟨rfl, rfl⟩ rfl hl.1 rfl ⟨Nat.le_of_ble_eq_true rfl, Nat.le_of_ble_eq_true rfl⟩ (Nat.le_of_ble_eq_true rfl) ⟨Nat.le_of_ble_eq_true rfl, Nat.le_of_ble_eq_true rfl⟩ dX11_ofYarn_6 (fun H locs hw => ?_)
  refine g_iald fx hw h_a1 dX11_ofYarn_9 hok (fun hok => ?_)
  cases gOk_some hok
  exact g_iret fx hw hr dX11_ofYarn_10
theorem dX11_at_0 : decode cX11_at 0 = .ok (.bipush 53, 2) := by decide +kernel
theorem dX11_at_2 : decode cX11_at 2 = .ok (.bipush 10, 2) := by decide +kernel
theorem dX11_at_4 : decode cX11_at 4 = .ok (.iload_n 0, 1) := by decide +kernel
theorem dX11_at_5 : decode cX11_at 5 = .ok (.imul, 1) := by decide +kernel
theorem dX11_at_6 : decode cX11_at 6 = .ok (.iadd, 1) := by decide +kernel
theorem dX11_at_7 : decode cX11_at 7 = .ok (.iload_n 1, 1) := by decide +kernel
theorem dX11_at_8 : decode cX11_at 8 = .ok (.iadd, 1) := by decide +kernel
theorem dX11_at_9 : decode cX11_at 9 = .ok (.ireturn, 1) := by decide +kernel
def rm_X11_at : Room := { frames := 0, cells := 0, slots := 0, locals := 0 }
def f_X11_at (x0 : Int32) (x1 : Int32) : Option (Int32) :=
  some (((53 : Int32) + ((10 : Int32) * x0)) + x1)
set_option maxHeartbeats 4000000 in
set_option maxRecDepth 100000 in
theorem c_X11_at (l : Launch) (X : gX) (τ : gτ) (x0 : Int32) (x1 : Int32) (G : gG)  {r : Int32}  (h : f_X11_at x0 x1 = some r) : gM l X τ yX11_at cX11_at 2 (some .int) rm_X11_at [.int x0, .int x1] G (some (.int r)) G := by
  refine g_body (by decide +kernel) (Nat.le_of_ble_eq_true rfl) ?_
  intro p e s m args below meth c ls fx hr hw hl
  have fx : gFx X p s m args meth c cX11_at 2 RX11 := fx
  have hl : lv_has ls 2 [(0, .int x0), (1, .int x1)] := hl
  have hok : gOk (f_X11_at x0 x1) (fun q => q = r) := ⟨_, h, rfl⟩
  unfold f_X11_at at hok
  show W p l e rm_X11_at s m args below meth c s.heap [] 0 0 (MQ below (gQ X τ (some (.int r)) G) args s 0 0 (gFree X)) _
  refine lv_bipush (v := 53) fx.1 fx.2.1 dX11_at_0 (by decide) ?_
  refine lv_bipush (v := 10) fx.1 fx.2.1 dX11_at_2 (by decide) ?_
  refine lv_iload_n fx.1 fx.2.1 dX11_at_4 rfl (lv_at hl 0 rfl) ?_
  refine lv_imul fx.1 fx.2.1 dX11_at_5 ?_
  refine lv_iadd fx.1 fx.2.1 dX11_at_6 ?_
  refine lv_iload_n fx.1 fx.2.1 dX11_at_7 rfl (lv_at hl 1 rfl) ?_
  refine lv_iadd fx.1 fx.2.1 dX11_at_8 ?_
  cases gOk_some hok
  exact g_iret fx hw hr dX11_at_9
theorem dX11_of_0 : decode cX11_of 0 = .ok (.aload_n 0, 1) := by decide +kernel
theorem dX11_of_1 : decode cX11_of 1 = .ok (.getfield 13, 3) := by decide +kernel
theorem dX11_of_4 : decode cX11_of 4 = .ok (.iload_n 1, 1) := by decide +kernel
theorem dX11_of_5 : decode cX11_of 5 = .ok (.iload_n 2, 1) := by decide +kernel
theorem dX11_of_6 : decode cX11_of 6 = .ok (.invokestatic 59, 3) := by decide +kernel
theorem dX11_of_9 : decode cX11_of 9 = .ok (.iaload, 1) := by decide +kernel
theorem dX11_of_10 : decode cX11_of 10 = .ok (.ireturn, 1) := by decide +kernel
theorem ls_RX11_59 : gLs RX11 59 yX11_at cX11_at 2 (some .int) 2 := gLs_of (wA_t (wt7 (List.mem_of_getElem? (i := 141) (by decide +kernel))) (by decide +kernel)) (wA_t (wt7 (List.mem_of_getElem? (i := 142) (by decide +kernel))) (by decide +kernel)) (wA_t (wt1 (List.mem_of_getElem? (i := 12) (by decide +kernel))) (by decide +kernel)) (wA_t (wt7 (List.mem_of_getElem? (i := 143) (by decide +kernel))) (by decide +kernel)) ⟨by decide +kernel, by decide +kernel, by decide +kernel⟩
def rm_X11_of : Room := { frames := 1, cells := 0, slots := 0, locals := 21 }
def f_X11_of (τ : gτ) (x0 : Nat) (x1 : Int32) (x2 : Int32) (G : gG) : Option (Int32) :=
  (gr G 11 1 x0).bind fun a1 =>
  (f_X11_at x1 x2).bind fun v2 =>
  gchk (gIn v2 (gn τ a1)) <|
  some (ge G a1 (Int32.toNatClampNeg v2))
set_option maxHeartbeats 4000000 in
set_option maxRecDepth 100000 in
theorem c_X11_of (l : Launch) (X : gX) (τ : gτ) (x0 : Nat) (x1 : Int32) (x2 : Int32) (G : gG) (h0 : gK τ x0 11) {r : Int32}  (h : f_X11_of τ x0 x1 x2 G = some r) : gM l X τ yX11_of cX11_of 3 (some .int) rm_X11_of [.ref x0, .int x1, .int x2] G (some (.int r)) G := by
  refine g_body (by decide +kernel) (Nat.le_of_ble_eq_true rfl) ?_
  intro p e s m args below meth c ls fx hr hw hl
  have fx : gFx X p s m args meth c cX11_of 3 RX11 := fx
  have hl : lv_has ls 3 [(0, .ref x0), (1, .int x1), (2, .int x2)] := hl
  have hok : gOk (f_X11_of τ x0 x1 x2 G) (fun q => q = r) := ⟨_, h, rfl⟩
  unfold f_X11_of at hok
  show W p l e rm_X11_of s m args below meth c s.heap [] 0 0 (MQ below (gQ X τ (some (.int r)) G) args s 0 0 (gFree X)) _
  refine lv_aload_n fx.1 fx.2.1 dX11_of_0 rfl (lv_at hl 0 rfl) ?_
  refine g_getr fx hw h0 lf_RX11_13 rfl dX11_of_1 hok (fun a1 h_a1 hok => ?_)
  refine lv_iload_n fx.1 fx.2.1 dX11_of_4 rfl (lv_at hl 1 rfl) ?_
  refine lv_iload_n fx.1 fx.2.1 dX11_of_5 rfl (lv_at hl 2 rfl) ?_
  obtain ⟨v2, hf, hok⟩ := gOk_bind hok
  refine g_callS0 fx hw (c_X11_at l X τ x1 x2 G  hf) ls_RX11_59 ⟨rfl, rfl⟩ rfl hl.1 rfl ⟨Nat.le_of_ble_eq_true rfl, Nat.le_of_ble_eq_true rfl⟩ (Nat.le_of_ble_eq_true rfl) ⟨Nat.le_of_ble_eq_true rfl, Nat.le_of_ble_eq_true rfl⟩ dX11_of_6 (fun H locs hw => ?_)
  refine g_iald fx hw h_a1 dX11_of_9 hok (fun hok => ?_)
  cases gOk_some hok
  exact g_iret fx hw hr dX11_of_10
theorem dX11_ofOrder_0 : decode cX11_ofOrder 0 = .ok (.aload_n 0, 1) := by decide +kernel
theorem dX11_ofOrder_1 : decode cX11_ofOrder 1 = .ok (.getfield 13, 3) := by decide +kernel
theorem dX11_ofOrder_4 : decode cX11_ofOrder 4 = .ok (.sipush 143, 3) := by decide +kernel
theorem dX11_ofOrder_7 : decode cX11_ofOrder 7 = .ok (.iconst 3, 1) := by decide +kernel
theorem dX11_ofOrder_8 : decode cX11_ofOrder 8 = .ok (.iload_n 1, 1) := by decide +kernel
theorem dX11_ofOrder_9 : decode cX11_ofOrder 9 = .ok (.imul, 1) := by decide +kernel
theorem dX11_ofOrder_10 : decode cX11_ofOrder 10 = .ok (.iadd, 1) := by decide +kernel
theorem dX11_ofOrder_11 : decode cX11_ofOrder 11 = .ok (.iload_n 2, 1) := by decide +kernel
theorem dX11_ofOrder_12 : decode cX11_ofOrder 12 = .ok (.iadd, 1) := by decide +kernel
theorem dX11_ofOrder_13 : decode cX11_ofOrder 13 = .ok (.iaload, 1) := by decide +kernel
theorem dX11_ofOrder_14 : decode cX11_ofOrder 14 = .ok (.ireturn, 1) := by decide +kernel
def rm_X11_ofOrder : Room := { frames := 0, cells := 0, slots := 0, locals := 0 }
def f_X11_ofOrder (τ : gτ) (x0 : Nat) (x1 : Int32) (x2 : Int32) (G : gG) : Option (Int32) :=
  (gr G 11 1 x0).bind fun a1 =>
  gchk (gIn (((143 : Int32) + ((3 : Int32) * x1)) + x2) (gn τ a1)) <|
  some (ge G a1 (Int32.toNatClampNeg (((143 : Int32) + ((3 : Int32) * x1)) + x2)))
set_option maxHeartbeats 4000000 in
set_option maxRecDepth 100000 in
theorem c_X11_ofOrder (l : Launch) (X : gX) (τ : gτ) (x0 : Nat) (x1 : Int32) (x2 : Int32) (G : gG) (h0 : gK τ x0 11) {r : Int32}  (h : f_X11_ofOrder τ x0 x1 x2 G = some r) : gM l X τ yX11_ofOrder cX11_ofOrder 3 (some .int) rm_X11_ofOrder [.ref x0, .int x1, .int x2] G (some (.int r)) G := by
  refine g_body (by decide +kernel) (Nat.le_of_ble_eq_true rfl) ?_
  intro p e s m args below meth c ls fx hr hw hl
  have fx : gFx X p s m args meth c cX11_ofOrder 3 RX11 := fx
  have hl : lv_has ls 3 [(0, .ref x0), (1, .int x1), (2, .int x2)] := hl
  have hok : gOk (f_X11_ofOrder τ x0 x1 x2 G) (fun q => q = r) := ⟨_, h, rfl⟩
  unfold f_X11_ofOrder at hok
  show W p l e rm_X11_ofOrder s m args below meth c s.heap [] 0 0 (MQ below (gQ X τ (some (.int r)) G) args s 0 0 (gFree X)) _
  refine lv_aload_n fx.1 fx.2.1 dX11_ofOrder_0 rfl (lv_at hl 0 rfl) ?_
  refine g_getr fx hw h0 lf_RX11_13 rfl dX11_ofOrder_1 hok (fun a1 h_a1 hok => ?_)
  refine lv_sipush (v := 143) fx.1 fx.2.1 dX11_ofOrder_4 (by decide) ?_
  refine lv_iconst (v := 3) fx.1 fx.2.1 dX11_ofOrder_7 (by decide) ?_
  refine lv_iload_n fx.1 fx.2.1 dX11_ofOrder_8 rfl (lv_at hl 1 rfl) ?_
  refine lv_imul fx.1 fx.2.1 dX11_ofOrder_9 ?_
  refine lv_iadd fx.1 fx.2.1 dX11_ofOrder_10 ?_
  refine lv_iload_n fx.1 fx.2.1 dX11_ofOrder_11 rfl (lv_at hl 2 rfl) ?_
  refine lv_iadd fx.1 fx.2.1 dX11_ofOrder_12 ?_
  refine g_iald fx hw h_a1 dX11_ofOrder_13 hok (fun hok => ?_)
  cases gOk_some hok
  exact g_iret fx hw hr dX11_ofOrder_14
theorem dX11_isWhole_0 : decode cX11_isWhole 0 = .ok (.aload_n 0, 1) := by decide +kernel
theorem dX11_isWhole_1 : decode cX11_isWhole 1 = .ok (.iload_n 1, 1) := by decide +kernel
theorem dX11_isWhole_2 : decode cX11_isWhole 2 = .ok (.bipush 8, 2) := by decide +kernel
theorem dX11_isWhole_4 : decode cX11_isWhole 4 = .ok (.invokevirtual 62, 3) := by decide +kernel
theorem dX11_isWhole_7 : decode cX11_isWhole 7 = .ok (.ifCond .ne 7, 3) := by decide +kernel
theorem dX11_isWhole_10 : decode cX11_isWhole 10 = .ok (.iconst 1, 1) := by decide +kernel
theorem dX11_isWhole_11 : decode cX11_isWhole 11 = .ok (.goto 4, 3) := by decide +kernel
theorem dX11_isWhole_14 : decode cX11_isWhole 14 = .ok (.iconst 0, 1) := by decide +kernel
theorem dX11_isWhole_15 : decode cX11_isWhole 15 = .ok (.ireturn, 1) := by decide +kernel
theorem lv_RX11_62 : gLv RX11 62 RX11 yX11_of cX11_of 3 (some .int) 2 := gLv_of (wA_t (wt7 (List.mem_of_getElem? (i := 144) (by decide +kernel))) (by decide +kernel)) (wA_t (wt7 (List.mem_of_getElem? (i := 146) (by decide +kernel))) (by decide +kernel)) (wA_of (List.mem_append_left _ (List.mem_map.mpr ⟨(⟨"YearRopeModel", "of", "(II)I"⟩, 20), wp4 (List.mem_of_getElem? (i := 11) (by decide +kernel)), rfl⟩)) (by decide +kernel)) (wA_t (wt1 (List.mem_of_getElem? (i := 12) (by decide +kernel))) (by decide +kernel)) (wA_t (wt7 (List.mem_of_getElem? (i := 147) (by decide +kernel))) (by decide +kernel)) ⟨rfl, by decide +kernel, by decide +kernel, by decide +kernel⟩
def rm_X11_isWhole : Room := { frames := 2, cells := 0, slots := 0, locals := 43 }
def f_X11_isWhole (τ : gτ) (x0 : Nat) (x1 : Int32) (G : gG) : Option (Int32) :=
  (f_X11_of τ x0 x1 (8 : Int32) G).bind fun v1 =>
  if v1 = 0 then (some (1))
  else (some (0))
set_option maxHeartbeats 4000000 in
set_option maxRecDepth 100000 in
theorem c_X11_isWhole (l : Launch) (X : gX) (τ : gτ) (x0 : Nat) (x1 : Int32) (G : gG) (h0 : gK τ x0 11) {r : Int32}  (h : f_X11_isWhole τ x0 x1 G = some r) : gM l X τ yX11_isWhole cX11_isWhole 2 (some .boolean) rm_X11_isWhole [.ref x0, .int x1] G (some (.int r)) G := by
  refine g_body (by decide +kernel) (Nat.le_of_ble_eq_true rfl) ?_
  intro p e s m args below meth c ls fx hr hw hl
  have fx : gFx X p s m args meth c cX11_isWhole 2 RX11 := fx
  have hl : lv_has ls 2 [(0, .ref x0), (1, .int x1)] := hl
  have hok : gOk (f_X11_isWhole τ x0 x1 G) (fun q => q = r) := ⟨_, h, rfl⟩
  unfold f_X11_isWhole at hok
  show W p l e rm_X11_isWhole s m args below meth c s.heap [] 0 0 (MQ below (gQ X τ (some (.int r)) G) args s 0 0 (gFree X)) _
  refine lv_aload_n fx.1 fx.2.1 dX11_isWhole_0 rfl (lv_at hl 0 rfl) ?_
  refine lv_iload_n fx.1 fx.2.1 dX11_isWhole_1 rfl (lv_at hl 1 rfl) ?_
  refine lv_bipush (v := 8) fx.1 fx.2.1 dX11_isWhole_2 (by decide) ?_
  obtain ⟨v1, hf, hok⟩ := gOk_bind hok
  refine g_callV0 (κ := 11) fx hw (c_X11_of l X τ x0 x1 (8 : Int32) G h0 hf) lv_RX11_62 ⟨rfl, rfl⟩ rfl rfl h0 rfl hl.1 rfl ⟨Nat.le_of_ble_eq_true rfl, Nat.le_of_ble_eq_true rfl⟩ (Nat.le_of_ble_eq_true rfl) ⟨Nat.le_of_ble_eq_true rfl, Nat.le_of_ble_eq_true rfl⟩ dX11_isWhole_4 (fun H locs hw => ?_)
  refine g_if_ne (tgt := 14) fx dX11_isWhole_7 (by decide) hok (fun hok => ?_) (fun hok => ?_)
  · refine lv_iconst (v := 1) fx.1 fx.2.1 dX11_isWhole_10 (by decide) ?_
    refine lv_goto (tgt := 15) fx.1 fx.2.1 dX11_isWhole_11 (by decide) ?_
    cases gOk_some hok
    exact g_zret fx hw hr (by decide) dX11_isWhole_15
  · refine lv_iconst (v := 0) fx.1 fx.2.1 dX11_isWhole_14 (by decide) ?_
    cases gOk_some hok
    exact g_zret fx hw hr (by decide) dX11_isWhole_15
theorem dX11_noYarn_0 : decode cX11_noYarn 0 = .ok (.iload_n 1, 1) := by decide +kernel
theorem dX11_noYarn_1 : decode cX11_noYarn 1 = .ok (.iconst 0, 1) := by decide +kernel
theorem dX11_noYarn_2 : decode cX11_noYarn 2 = .ok (.aload_n 0, 1) := by decide +kernel
theorem dX11_noYarn_3 : decode cX11_noYarn 3 = .ok (.invokevirtual 65, 3) := by decide +kernel
theorem dX11_noYarn_6 : decode cX11_noYarn 6 = .ok (.iconst 1, 1) := by decide +kernel
theorem dX11_noYarn_7 : decode cX11_noYarn 7 = .ok (.isub, 1) := by decide +kernel
theorem dX11_noYarn_8 : decode cX11_noYarn 8 = .ok (.invokestatic 69, 3) := by decide +kernel
theorem dX11_noYarn_11 : decode cX11_noYarn 11 = .ok (.ifCond .ne 7, 3) := by decide +kernel
theorem dX11_noYarn_14 : decode cX11_noYarn 14 = .ok (.iconst 1, 1) := by decide +kernel
theorem dX11_noYarn_15 : decode cX11_noYarn 15 = .ok (.goto 4, 3) := by decide +kernel
theorem dX11_noYarn_18 : decode cX11_noYarn 18 = .ok (.iconst 0, 1) := by decide +kernel
theorem dX11_noYarn_19 : decode cX11_noYarn 19 = .ok (.ireturn, 1) := by decide +kernel
theorem lv_RX11_65 : gLv RX11 65 RX11 yX11_yarns cX11_yarns 1 (some .int) 0 := gLv_of (wA_t (wt7 (List.mem_of_getElem? (i := 101) (by decide +kernel))) (by decide +kernel)) (wA_t (wt7 (List.mem_of_getElem? (i := 103) (by decide +kernel))) (by decide +kernel)) (wA_of (List.mem_append_left _ (List.mem_map.mpr ⟨(⟨"YearRopeModel", "yarns", "()I"⟩, 20), wp4 (List.mem_of_getElem? (i := 3) (by decide +kernel)), rfl⟩)) (by decide +kernel)) (wA_t (wt1 (List.mem_of_getElem? (i := 12) (by decide +kernel))) (by decide +kernel)) (wA_t (wt7 (List.mem_of_getElem? (i := 104) (by decide +kernel))) (by decide +kernel)) ⟨rfl, by decide +kernel, by decide +kernel, by decide +kernel⟩
theorem ls_RX11_69 : gLs RX11 69 yX11_in cX11_in 3 (some .boolean) 3 := gLs_of (wA_t (wt8 (List.mem_of_getElem? (i := 6) (by decide +kernel))) (by decide +kernel)) (wA_t (wt8 (List.mem_of_getElem? (i := 7) (by decide +kernel))) (by decide +kernel)) (wA_t (wt1 (List.mem_of_getElem? (i := 12) (by decide +kernel))) (by decide +kernel)) (wA_t (wt8 (List.mem_of_getElem? (i := 8) (by decide +kernel))) (by decide +kernel)) ⟨by decide +kernel, by decide +kernel, by decide +kernel⟩
def rm_X11_noYarn : Room := { frames := 1, cells := 0, slots := 0, locals := 22 }
def f_X11_noYarn (τ : gτ) (x0 : Nat) (x1 : Int32) (G : gG) : Option (Int32) :=
  (f_X11_yarns τ x0 G).bind fun v1 =>
  (f_X11_in x1 (0 : Int32) (v1 - (1 : Int32))).bind fun v2 =>
  if v2 = 0 then (some (1))
  else (some (0))
set_option maxHeartbeats 4000000 in
set_option maxRecDepth 100000 in
theorem c_X11_noYarn (l : Launch) (X : gX) (τ : gτ) (x0 : Nat) (x1 : Int32) (G : gG) (h0 : gK τ x0 11) {r : Int32}  (h : f_X11_noYarn τ x0 x1 G = some r) : gM l X τ yX11_noYarn cX11_noYarn 2 (some .boolean) rm_X11_noYarn [.ref x0, .int x1] G (some (.int r)) G := by
  refine g_body (by decide +kernel) (Nat.le_of_ble_eq_true rfl) ?_
  intro p e s m args below meth c ls fx hr hw hl
  have fx : gFx X p s m args meth c cX11_noYarn 2 RX11 := fx
  have hl : lv_has ls 2 [(0, .ref x0), (1, .int x1)] := hl
  have hok : gOk (f_X11_noYarn τ x0 x1 G) (fun q => q = r) := ⟨_, h, rfl⟩
  unfold f_X11_noYarn at hok
  show W p l e rm_X11_noYarn s m args below meth c s.heap [] 0 0 (MQ below (gQ X τ (some (.int r)) G) args s 0 0 (gFree X)) _
  refine lv_iload_n fx.1 fx.2.1 dX11_noYarn_0 rfl (lv_at hl 1 rfl) ?_
  refine lv_iconst (v := 0) fx.1 fx.2.1 dX11_noYarn_1 (by decide) ?_
  refine lv_aload_n fx.1 fx.2.1 dX11_noYarn_2 rfl (lv_at hl 0 rfl) ?_
  obtain ⟨v1, hf, hok⟩ := gOk_bind hok
  refine g_callV0 (κ := 11) fx hw (c_X11_yarns l X τ x0 G h0 hf) lv_RX11_65 ⟨rfl, rfl⟩ rfl rfl h0 rfl hl.1 rfl ⟨Nat.le_of_ble_eq_true rfl, Nat.le_of_ble_eq_true rfl⟩ (Nat.le_of_ble_eq_true rfl) ⟨Nat.le_of_ble_eq_true rfl, Nat.le_of_ble_eq_true rfl⟩ dX11_noYarn_3 (fun H locs hw => ?_)
  refine lv_iconst (v := 1) fx.1 fx.2.1 dX11_noYarn_6 (by decide) ?_
  refine lv_isub fx.1 fx.2.1 dX11_noYarn_7 ?_
  obtain ⟨v2, hf, hok⟩ := gOk_bind hok
  refine g_callS0 fx hw (c_X11_in l X τ x1 (0 : Int32) (v1 - (1 : Int32)) G  hf) ls_RX11_69 ⟨rfl, rfl⟩ rfl hl.1 rfl ⟨Nat.le_of_ble_eq_true rfl, Nat.le_of_ble_eq_true rfl⟩ (Nat.le_of_ble_eq_true rfl) ⟨Nat.le_of_ble_eq_true rfl, Nat.le_of_ble_eq_true rfl⟩ dX11_noYarn_8 (fun H locs hw => ?_)
  refine g_if_ne (tgt := 18) fx dX11_noYarn_11 (by decide) hok (fun hok => ?_) (fun hok => ?_)
  · refine lv_iconst (v := 1) fx.1 fx.2.1 dX11_noYarn_14 (by decide) ?_
    refine lv_goto (tgt := 19) fx.1 fx.2.1 dX11_noYarn_15 (by decide) ?_
    cases gOk_some hok
    exact g_zret fx hw hr (by decide) dX11_noYarn_19
  · refine lv_iconst (v := 0) fx.1 fx.2.1 dX11_noYarn_18 (by decide) ?_
    cases gOk_some hok
    exact g_zret fx hw hr (by decide) dX11_noYarn_19
theorem dX11_noRope_0 : decode cX11_noRope 0 = .ok (.iload_n 1, 1) := by decide +kernel
theorem dX11_noRope_1 : decode cX11_noRope 1 = .ok (.iconst 0, 1) := by decide +kernel
theorem dX11_noRope_2 : decode cX11_noRope 2 = .ok (.aload_n 0, 1) := by decide +kernel
theorem dX11_noRope_3 : decode cX11_noRope 3 = .ok (.invokevirtual 73, 3) := by decide +kernel
theorem dX11_noRope_6 : decode cX11_noRope 6 = .ok (.iconst 1, 1) := by decide +kernel
theorem dX11_noRope_7 : decode cX11_noRope 7 = .ok (.isub, 1) := by decide +kernel
theorem dX11_noRope_8 : decode cX11_noRope 8 = .ok (.invokestatic 69, 3) := by decide +kernel
theorem dX11_noRope_11 : decode cX11_noRope 11 = .ok (.ifCond .ne 7, 3) := by decide +kernel
theorem dX11_noRope_14 : decode cX11_noRope 14 = .ok (.iconst 1, 1) := by decide +kernel
theorem dX11_noRope_15 : decode cX11_noRope 15 = .ok (.goto 4, 3) := by decide +kernel
theorem dX11_noRope_18 : decode cX11_noRope 18 = .ok (.iconst 0, 1) := by decide +kernel
theorem dX11_noRope_19 : decode cX11_noRope 19 = .ok (.ireturn, 1) := by decide +kernel
theorem lv_RX11_73 : gLv RX11 73 RX11 yX11_ropes cX11_ropes 1 (some .int) 0 := gLv_of (wA_t (wt7 (List.mem_of_getElem? (i := 124) (by decide +kernel))) (by decide +kernel)) (wA_t (wt7 (List.mem_of_getElem? (i := 126) (by decide +kernel))) (by decide +kernel)) (wA_of (List.mem_append_left _ (List.mem_map.mpr ⟨(⟨"YearRopeModel", "ropes", "()I"⟩, 20), wp4 (List.mem_of_getElem? (i := 7) (by decide +kernel)), rfl⟩)) (by decide +kernel)) (wA_t (wt1 (List.mem_of_getElem? (i := 12) (by decide +kernel))) (by decide +kernel)) (wA_t (wt7 (List.mem_of_getElem? (i := 127) (by decide +kernel))) (by decide +kernel)) ⟨rfl, by decide +kernel, by decide +kernel, by decide +kernel⟩
def rm_X11_noRope : Room := { frames := 1, cells := 0, slots := 0, locals := 22 }
def f_X11_noRope (τ : gτ) (x0 : Nat) (x1 : Int32) (G : gG) : Option (Int32) :=
  (f_X11_ropes τ x0 G).bind fun v1 =>
  (f_X11_in x1 (0 : Int32) (v1 - (1 : Int32))).bind fun v2 =>
  if v2 = 0 then (some (1))
  else (some (0))
set_option maxHeartbeats 4000000 in
set_option maxRecDepth 100000 in
theorem c_X11_noRope (l : Launch) (X : gX) (τ : gτ) (x0 : Nat) (x1 : Int32) (G : gG) (h0 : gK τ x0 11) {r : Int32}  (h : f_X11_noRope τ x0 x1 G = some r) : gM l X τ yX11_noRope cX11_noRope 2 (some .boolean) rm_X11_noRope [.ref x0, .int x1] G (some (.int r)) G := by
  refine g_body (by decide +kernel) (Nat.le_of_ble_eq_true rfl) ?_
  intro p e s m args below meth c ls fx hr hw hl
  have fx : gFx X p s m args meth c cX11_noRope 2 RX11 := fx
  have hl : lv_has ls 2 [(0, .ref x0), (1, .int x1)] := hl
  have hok : gOk (f_X11_noRope τ x0 x1 G) (fun q => q = r) := ⟨_, h, rfl⟩
  unfold f_X11_noRope at hok
  show W p l e rm_X11_noRope s m args below meth c s.heap [] 0 0 (MQ below (gQ X τ (some (.int r)) G) args s 0 0 (gFree X)) _
  refine lv_iload_n fx.1 fx.2.1 dX11_noRope_0 rfl (lv_at hl 1 rfl) ?_
  refine lv_iconst (v := 0) fx.1 fx.2.1 dX11_noRope_1 (by decide) ?_
  refine lv_aload_n fx.1 fx.2.1 dX11_noRope_2 rfl (lv_at hl 0 rfl) ?_
  obtain ⟨v1, hf, hok⟩ := gOk_bind hok
  refine g_callV0 (κ := 11) fx hw (c_X11_ropes l X τ x0 G h0 hf) lv_RX11_73 ⟨rfl, rfl⟩ rfl rfl h0 rfl hl.1 rfl ⟨Nat.le_of_ble_eq_true rfl, Nat.le_of_ble_eq_true rfl⟩ (Nat.le_of_ble_eq_true rfl) ⟨Nat.le_of_ble_eq_true rfl, Nat.le_of_ble_eq_true rfl⟩ dX11_noRope_3 (fun H locs hw => ?_)
  refine lv_iconst (v := 1) fx.1 fx.2.1 dX11_noRope_6 (by decide) ?_
  refine lv_isub fx.1 fx.2.1 dX11_noRope_7 ?_
  obtain ⟨v2, hf, hok⟩ := gOk_bind hok
  refine g_callS0 fx hw (c_X11_in l X τ x1 (0 : Int32) (v1 - (1 : Int32)) G  hf) ls_RX11_69 ⟨rfl, rfl⟩ rfl hl.1 rfl ⟨Nat.le_of_ble_eq_true rfl, Nat.le_of_ble_eq_true rfl⟩ (Nat.le_of_ble_eq_true rfl) ⟨Nat.le_of_ble_eq_true rfl, Nat.le_of_ble_eq_true rfl⟩ dX11_noRope_8 (fun H locs hw => ?_)
  refine g_if_ne (tgt := 18) fx dX11_noRope_11 (by decide) hok (fun hok => ?_) (fun hok => ?_)
  · refine lv_iconst (v := 1) fx.1 fx.2.1 dX11_noRope_14 (by decide) ?_
    refine lv_goto (tgt := 19) fx.1 fx.2.1 dX11_noRope_15 (by decide) ?_
    cases gOk_some hok
    exact g_zret fx hw hr (by decide) dX11_noRope_19
  · refine lv_iconst (v := 0) fx.1 fx.2.1 dX11_noRope_18 (by decide) ?_
    cases gOk_some hok
    exact g_zret fx hw hr (by decide) dX11_noRope_19
theorem dX11_noOrder_0 : decode cX11_noOrder 0 = .ok (.iload_n 1, 1) := by decide +kernel
theorem dX11_noOrder_1 : decode cX11_noOrder 1 = .ok (.iconst 0, 1) := by decide +kernel
theorem dX11_noOrder_2 : decode cX11_noOrder 2 = .ok (.aload_n 0, 1) := by decide +kernel
theorem dX11_noOrder_3 : decode cX11_noOrder 3 = .ok (.invokevirtual 76, 3) := by decide +kernel
theorem dX11_noOrder_6 : decode cX11_noOrder 6 = .ok (.iconst 1, 1) := by decide +kernel
theorem dX11_noOrder_7 : decode cX11_noOrder 7 = .ok (.isub, 1) := by decide +kernel
theorem dX11_noOrder_8 : decode cX11_noOrder 8 = .ok (.invokestatic 69, 3) := by decide +kernel
theorem dX11_noOrder_11 : decode cX11_noOrder 11 = .ok (.ifCond .ne 7, 3) := by decide +kernel
theorem dX11_noOrder_14 : decode cX11_noOrder 14 = .ok (.iconst 1, 1) := by decide +kernel
theorem dX11_noOrder_15 : decode cX11_noOrder 15 = .ok (.goto 4, 3) := by decide +kernel
theorem dX11_noOrder_18 : decode cX11_noOrder 18 = .ok (.iconst 0, 1) := by decide +kernel
theorem dX11_noOrder_19 : decode cX11_noOrder 19 = .ok (.ireturn, 1) := by decide +kernel
theorem lv_RX11_76 : gLv RX11 76 RX11 yX11_orders cX11_orders 1 (some .int) 0 := gLv_of (wA_t (wt7 (List.mem_of_getElem? (i := 153) (by decide +kernel))) (by decide +kernel)) (wA_t (wt7 (List.mem_of_getElem? (i := 155) (by decide +kernel))) (by decide +kernel)) (wA_of (List.mem_append_left _ (List.mem_map.mpr ⟨(⟨"YearRopeModel", "orders", "()I"⟩, 20), wp4 (List.mem_of_getElem? (i := 13) (by decide +kernel)), rfl⟩)) (by decide +kernel)) (wA_t (wt1 (List.mem_of_getElem? (i := 12) (by decide +kernel))) (by decide +kernel)) (wA_t (wt7 (List.mem_of_getElem? (i := 156) (by decide +kernel))) (by decide +kernel)) ⟨rfl, by decide +kernel, by decide +kernel, by decide +kernel⟩
def rm_X11_noOrder : Room := { frames := 1, cells := 0, slots := 0, locals := 22 }
def f_X11_noOrder (τ : gτ) (x0 : Nat) (x1 : Int32) (G : gG) : Option (Int32) :=
  (f_X11_orders τ x0 G).bind fun v1 =>
  (f_X11_in x1 (0 : Int32) (v1 - (1 : Int32))).bind fun v2 =>
  if v2 = 0 then (some (1))
  else (some (0))
set_option maxHeartbeats 4000000 in
set_option maxRecDepth 100000 in
theorem c_X11_noOrder (l : Launch) (X : gX) (τ : gτ) (x0 : Nat) (x1 : Int32) (G : gG) (h0 : gK τ x0 11) {r : Int32}  (h : f_X11_noOrder τ x0 x1 G = some r) : gM l X τ yX11_noOrder cX11_noOrder 2 (some .boolean) rm_X11_noOrder [.ref x0, .int x1] G (some (.int r)) G := by
  refine g_body (by decide +kernel) (Nat.le_of_ble_eq_true rfl) ?_
  intro p e s m args below meth c ls fx hr hw hl
  have fx : gFx X p s m args meth c cX11_noOrder 2 RX11 := fx
  have hl : lv_has ls 2 [(0, .ref x0), (1, .int x1)] := hl
  have hok : gOk (f_X11_noOrder τ x0 x1 G) (fun q => q = r) := ⟨_, h, rfl⟩
  unfold f_X11_noOrder at hok
  show W p l e rm_X11_noOrder s m args below meth c s.heap [] 0 0 (MQ below (gQ X τ (some (.int r)) G) args s 0 0 (gFree X)) _
  refine lv_iload_n fx.1 fx.2.1 dX11_noOrder_0 rfl (lv_at hl 1 rfl) ?_
  refine lv_iconst (v := 0) fx.1 fx.2.1 dX11_noOrder_1 (by decide) ?_
  refine lv_aload_n fx.1 fx.2.1 dX11_noOrder_2 rfl (lv_at hl 0 rfl) ?_
  obtain ⟨v1, hf, hok⟩ := gOk_bind hok
  refine g_callV0 (κ := 11) fx hw (c_X11_orders l X τ x0 G h0 hf) lv_RX11_76 ⟨rfl, rfl⟩ rfl rfl h0 rfl hl.1 rfl ⟨Nat.le_of_ble_eq_true rfl, Nat.le_of_ble_eq_true rfl⟩ (Nat.le_of_ble_eq_true rfl) ⟨Nat.le_of_ble_eq_true rfl, Nat.le_of_ble_eq_true rfl⟩ dX11_noOrder_3 (fun H locs hw => ?_)
  refine lv_iconst (v := 1) fx.1 fx.2.1 dX11_noOrder_6 (by decide) ?_
  refine lv_isub fx.1 fx.2.1 dX11_noOrder_7 ?_
  obtain ⟨v2, hf, hok⟩ := gOk_bind hok
  refine g_callS0 fx hw (c_X11_in l X τ x1 (0 : Int32) (v1 - (1 : Int32)) G  hf) ls_RX11_69 ⟨rfl, rfl⟩ rfl hl.1 rfl ⟨Nat.le_of_ble_eq_true rfl, Nat.le_of_ble_eq_true rfl⟩ (Nat.le_of_ble_eq_true rfl) ⟨Nat.le_of_ble_eq_true rfl, Nat.le_of_ble_eq_true rfl⟩ dX11_noOrder_8 (fun H locs hw => ?_)
  refine g_if_ne (tgt := 18) fx dX11_noOrder_11 (by decide) hok (fun hok => ?_) (fun hok => ?_)
  · refine lv_iconst (v := 1) fx.1 fx.2.1 dX11_noOrder_14 (by decide) ?_
    refine lv_goto (tgt := 19) fx.1 fx.2.1 dX11_noOrder_15 (by decide) ?_
    cases gOk_some hok
    exact g_zret fx hw hr (by decide) dX11_noOrder_19
  · refine lv_iconst (v := 0) fx.1 fx.2.1 dX11_noOrder_18 (by decide) ?_
    cases gOk_some hok
    exact g_zret fx hw hr (by decide) dX11_noOrder_19
theorem dX11_areTwo_0 : decode cX11_areTwo 0 = .ok (.iload_n 0, 1) := by decide +kernel
theorem dX11_areTwo_1 : decode cX11_areTwo 1 = .ok (.iload_n 1, 1) := by decide +kernel
theorem dX11_areTwo_2 : decode cX11_areTwo 2 = .ok (.if_icmp .eq 13, 3) := by decide +kernel
theorem dX11_areTwo_5 : decode cX11_areTwo 5 = .ok (.iload_n 1, 1) := by decide +kernel
theorem dX11_areTwo_6 : decode cX11_areTwo 6 = .ok (.iload_n 2, 1) := by decide +kernel
theorem dX11_areTwo_7 : decode cX11_areTwo 7 = .ok (.if_icmp .eq 8, 3) := by decide +kernel
theorem dX11_areTwo_10 : decode cX11_areTwo 10 = .ok (.iload_n 0, 1) := by decide +kernel
theorem dX11_areTwo_11 : decode cX11_areTwo 11 = .ok (.iload_n 2, 1) := by decide +kernel
theorem dX11_areTwo_12 : decode cX11_areTwo 12 = .ok (.if_icmp .ne 7, 3) := by decide +kernel
theorem dX11_areTwo_15 : decode cX11_areTwo 15 = .ok (.iconst 1, 1) := by decide +kernel
theorem dX11_areTwo_16 : decode cX11_areTwo 16 = .ok (.goto 4, 3) := by decide +kernel
theorem dX11_areTwo_19 : decode cX11_areTwo 19 = .ok (.iconst 0, 1) := by decide +kernel
theorem dX11_areTwo_20 : decode cX11_areTwo 20 = .ok (.ireturn, 1) := by decide +kernel
def rm_X11_areTwo : Room := { frames := 0, cells := 0, slots := 0, locals := 0 }
def f_X11_areTwo (x0 : Int32) (x1 : Int32) (x2 : Int32) : Option (Int32) :=
  if x0 = x1 then (some (1))
  else (if x1 = x2 then (some (1))
  else (if x0 = x2 then (some (1))
  else (some (0))))
set_option maxHeartbeats 4000000 in
set_option maxRecDepth 100000 in
theorem c_X11_areTwo (l : Launch) (X : gX) (τ : gτ) (x0 : Int32) (x1 : Int32) (x2 : Int32) (G : gG)  {r : Int32}  (h : f_X11_areTwo x0 x1 x2 = some r) : gM l X τ yX11_areTwo cX11_areTwo 3 (some .boolean) rm_X11_areTwo [.int x0, .int x1, .int x2] G (some (.int r)) G := by
  refine g_body (by decide +kernel) (Nat.le_of_ble_eq_true rfl) ?_
  intro p e s m args below meth c ls fx hr hw hl
  have fx : gFx X p s m args meth c cX11_areTwo 3 RX11 := fx
  have hl : lv_has ls 3 [(0, .int x0), (1, .int x1), (2, .int x2)] := hl
  have hok : gOk (f_X11_areTwo x0 x1 x2) (fun q => q = r) := ⟨_, h, rfl⟩
  unfold f_X11_areTwo at hok
  show W p l e rm_X11_areTwo s m args below meth c s.heap [] 0 0 (MQ below (gQ X τ (some (.int r)) G) args s 0 0 (gFree X)) _
  refine lv_iload_n fx.1 fx.2.1 dX11_areTwo_0 rfl (lv_at hl 0 rfl) ?_
  refine lv_iload_n fx.1 fx.2.1 dX11_areTwo_1 rfl (lv_at hl 1 rfl) ?_
  refine g_icmp_eq (tgt := 15) fx dX11_areTwo_2 (by decide) hok (fun hok => ?_) (fun hok => ?_)
  · refine lv_iconst (v := 1) fx.1 fx.2.1 dX11_areTwo_15 (by decide) ?_
    refine lv_goto (tgt := 20) fx.1 fx.2.1 dX11_areTwo_16 (by decide) ?_
    cases gOk_some hok
    exact g_zret fx hw hr (by decide) dX11_areTwo_20
  · refine lv_iload_n fx.1 fx.2.1 dX11_areTwo_5 rfl (lv_at hl 1 rfl) ?_
    refine lv_iload_n fx.1 fx.2.1 dX11_areTwo_6 rfl (lv_at hl 2 rfl) ?_
    refine g_icmp_eq (tgt := 15) fx dX11_areTwo_7 (by decide) hok (fun hok => ?_) (fun hok => ?_)
    · refine lv_iconst (v := 1) fx.1 fx.2.1 dX11_areTwo_15 (by decide) ?_
      refine lv_goto (tgt := 20) fx.1 fx.2.1 dX11_areTwo_16 (by decide) ?_
      cases gOk_some hok
      exact g_zret fx hw hr (by decide) dX11_areTwo_20
    · refine lv_iload_n fx.1 fx.2.1 dX11_areTwo_10 rfl (lv_at hl 0 rfl) ?_
      refine lv_iload_n fx.1 fx.2.1 dX11_areTwo_11 rfl (lv_at hl 2 rfl) ?_
      refine g_icmp_ne (tgt := 19) fx dX11_areTwo_12 (by decide) hok (fun hok => ?_) (fun hok => ?_)
      · refine lv_iconst (v := 1) fx.1 fx.2.1 dX11_areTwo_15 (by decide) ?_
        refine lv_goto (tgt := 20) fx.1 fx.2.1 dX11_areTwo_16 (by decide) ?_
        cases gOk_some hok
        exact g_zret fx hw hr (by decide) dX11_areTwo_20
      · refine lv_iconst (v := 0) fx.1 fx.2.1 dX11_areTwo_19 (by decide) ?_
        cases gOk_some hok
        exact g_zret fx hw hr (by decide) dX11_areTwo_20
theorem dX11_draw_0 : decode cX11_draw 0 = .ok (.aload_n 0, 1) := by decide +kernel
theorem dX11_draw_1 : decode cX11_draw 1 = .ok (.getfield 13, 3) := by decide +kernel
theorem dX11_draw_4 : decode cX11_draw 4 = .ok (.bipush 12, 2) := by decide +kernel
theorem dX11_draw_6 : decode cX11_draw 6 = .ok (.ldc 79, 2) := by decide +kernel
theorem dX11_draw_8 : decode cX11_draw 8 = .ok (.aload_n 0, 1) := by decide +kernel
theorem dX11_draw_9 : decode cX11_draw 9 = .ok (.getfield 13, 3) := by decide +kernel
theorem dX11_draw_12 : decode cX11_draw 12 = .ok (.bipush 12, 2) := by decide +kernel
theorem dX11_draw_14 : decode cX11_draw 14 = .ok (.iaload, 1) := by decide +kernel
theorem dX11_draw_15 : decode cX11_draw 15 = .ok (.imul, 1) := by decide +kernel
theorem dX11_draw_16 : decode cX11_draw 16 = .ok (.sipush 12345, 3) := by decide +kernel
theorem dX11_draw_19 : decode cX11_draw 19 = .ok (.iadd, 1) := by decide +kernel
theorem dX11_draw_20 : decode cX11_draw 20 = .ok (.iastore, 1) := by decide +kernel
theorem dX11_draw_21 : decode cX11_draw 21 = .ok (.aload_n 0, 1) := by decide +kernel
theorem dX11_draw_22 : decode cX11_draw 22 = .ok (.getfield 13, 3) := by decide +kernel
theorem dX11_draw_25 : decode cX11_draw 25 = .ok (.bipush 12, 2) := by decide +kernel
theorem dX11_draw_27 : decode cX11_draw 27 = .ok (.iaload, 1) := by decide +kernel
theorem dX11_draw_28 : decode cX11_draw 28 = .ok (.bipush 16, 2) := by decide +kernel
theorem dX11_draw_30 : decode cX11_draw 30 = .ok (.ishr, 1) := by decide +kernel
theorem dX11_draw_31 : decode cX11_draw 31 = .ok (.sipush 32767, 3) := by decide +kernel
theorem dX11_draw_34 : decode cX11_draw 34 = .ok (.iand, 1) := by decide +kernel
theorem dX11_draw_35 : decode cX11_draw 35 = .ok (.iload_n 1, 1) := by decide +kernel
theorem dX11_draw_36 : decode cX11_draw 36 = .ok (.irem, 1) := by decide +kernel
theorem dX11_draw_37 : decode cX11_draw 37 = .ok (.ireturn, 1) := by decide +kernel
theorem lc_RX11_79 : Cond.constant RX11 79 1103515245 ∈ wA := wA_t (wt8 (List.mem_of_getElem? (i := 173) (by decide +kernel))) (by decide +kernel)
def rm_X11_draw : Room := { frames := 0, cells := 0, slots := 0, locals := 0 }
def f_X11_draw (τ : gτ) (x0 : Nat) (x1 : Int32) (G : gG) : Option (Int32 × gG) :=
  (gr G 11 1 x0).bind fun a1 =>
  (gr G 11 1 x0).bind fun a2 =>
  gchk (gIn (12 : Int32) (gn τ a2)) <|
  gchk (gIn (12 : Int32) (gn τ a1)) <| gLet (gse G a1 (Int32.toNatClampNeg (12 : Int32)) (((1103515245 : Int32) * (ge G a2 (Int32.toNatClampNeg (12 : Int32)))) + (12345 : Int32))) fun G3 =>
  (gr G3 11 1 x0).bind fun a4 =>
  gchk (gIn (12 : Int32) (gn τ a4)) <|
  gchk (¬ x1 = 0) <|
  some ((((ge G3 a4 (Int32.toNatClampNeg (12 : Int32))) >>> ((16 : Int32) &&& 31)) &&& (32767 : Int32)) - (((ge G3 a4 (Int32.toNatClampNeg (12 : Int32))) >>> ((16 : Int32) &&& 31)) &&& (32767 : Int32)) / x1 * x1, G3)
set_option maxHeartbeats 4000000 in
set_option maxRecDepth 100000 in
theorem c_X11_draw (l : Launch) (X : gX) (τ : gτ) (x0 : Nat) (x1 : Int32) (G : gG) (h0 : gK τ x0 11) {r : Int32} {G' : gG} (h : f_X11_draw τ x0 x1 G = some (r, G')) : gM l X τ yX11_draw cX11_draw 2 (some .int) rm_X11_draw [.ref x0, .int x1] G (some (.int r)) G' := by
  refine g_body (by decide +kernel) (Nat.le_of_ble_eq_true rfl) ?_
  intro p e s m args below meth c ls fx hr hw hl
  have fx : gFx X p s m args meth c cX11_draw 2 RX11 := fx
  have hl : lv_has ls 2 [(0, .ref x0), (1, .int x1)] := hl
  have hok : gOk (f_X11_draw τ x0 x1 G) (fun q => q = (r, G')) := ⟨_, h, rfl⟩
  unfold f_X11_draw at hok
  show W p l e rm_X11_draw s m args below meth c s.heap [] 0 0 (MQ below (gQ X τ (some (.int r)) G') args s 0 0 (gFree X)) _
  refine lv_aload_n fx.1 fx.2.1 dX11_draw_0 rfl (lv_at hl 0 rfl) ?_
  refine g_getr fx hw h0 lf_RX11_13 rfl dX11_draw_1 hok (fun a1 h_a1 hok => ?_)
  refine lv_bipush (v := 12) fx.1 fx.2.1 dX11_draw_4 (by decide) ?_
  refine lv_ldc fx.1 fx.2.1 fx.2.2.2.1 (fx.2.2.2.2.1 _ lc_RX11_79) dX11_draw_6 ?_
  refine lv_aload_n fx.1 fx.2.1 dX11_draw_8 rfl (lv_at hl 0 rfl) ?_
  refine g_getr fx hw h0 lf_RX11_13 rfl dX11_draw_9 hok (fun a2 h_a2 hok => ?_)
  refine lv_bipush (v := 12) fx.1 fx.2.1 dX11_draw_12 (by decide) ?_
  refine g_iald fx hw h_a2 dX11_draw_14 hok (fun hok => ?_)
  refine lv_imul fx.1 fx.2.1 dX11_draw_15 ?_
  refine lv_sipush (v := 12345) fx.1 fx.2.1 dX11_draw_16 (by decide) ?_
  refine lv_iadd fx.1 fx.2.1 dX11_draw_19 ?_
  refine g_iast fx hw h_a1 dX11_draw_20 hok (fun G3 H locs hw hok => ?_)
  refine lv_aload_n fx.1 fx.2.1 dX11_draw_21 rfl (lv_at hl 0 rfl) ?_
  refine g_getr fx hw h0 lf_RX11_13 rfl dX11_draw_22 hok (fun a4 h_a4 hok => ?_)
  refine lv_bipush (v := 12) fx.1 fx.2.1 dX11_draw_25 (by decide) ?_
  refine g_iald fx hw h_a4 dX11_draw_27 hok (fun hok => ?_)
  refine lv_bipush (v := 16) fx.1 fx.2.1 dX11_draw_28 (by decide) ?_
  refine lv_ishr fx.1 fx.2.1 dX11_draw_30 ?_
  refine lv_sipush (v := 32767) fx.1 fx.2.1 dX11_draw_31 (by decide) ?_
  refine lv_iand fx.1 fx.2.1 dX11_draw_34 ?_
  refine lv_iload_n fx.1 fx.2.1 dX11_draw_35 rfl (lv_at hl 1 rfl) ?_
  refine g_irem fx dX11_draw_36 hok (fun hok => ?_)
  cases gOk_some hok
  exact g_iret fx hw hr dX11_draw_37
theorem dX11_feed_0 : decode cX11_feed 0 = .ok (.aload_n 0, 1) := by decide +kernel
theorem dX11_feed_1 : decode cX11_feed 1 = .ok (.iconst 0, 1) := by decide +kernel
theorem dX11_feed_2 : decode cX11_feed 2 = .ok (.putfield 3, 3) := by decide +kernel
theorem dX11_feed_5 : decode cX11_feed 5 = .ok (.aload_n 0, 1) := by decide +kernel
theorem dX11_feed_6 : decode cX11_feed 6 = .ok (.getfield 80, 3) := by decide +kernel
theorem dX11_feed_9 : decode cX11_feed 9 = .ok (.bipush 20, 2) := by decide +kernel
theorem dX11_feed_11 : decode cX11_feed 11 = .ok (.iadd, 1) := by decide +kernel
theorem dX11_feed_12 : decode cX11_feed 12 = .ok (.sipush 400, 3) := by decide +kernel
theorem dX11_feed_15 : decode cX11_feed 15 = .ok (.if_icmp .le 5, 3) := by decide +kernel
theorem dX11_feed_18 : decode cX11_feed 18 = .ok (.iconst (-1), 1) := by decide +kernel
theorem dX11_feed_19 : decode cX11_feed 19 = .ok (.ireturn, 1) := by decide +kernel
theorem dX11_feed_20 : decode cX11_feed 20 = .ok (.aload_n 0, 1) := by decide +kernel
theorem dX11_feed_21 : decode cX11_feed 21 = .ok (.getfield 36, 3) := by decide +kernel
theorem dX11_feed_24 : decode cX11_feed 24 = .ok (.iconst 0, 1) := by decide +kernel
theorem dX11_feed_25 : decode cX11_feed 25 = .ok (.iload_n 1, 1) := by decide +kernel
theorem dX11_feed_26 : decode cX11_feed 26 = .ok (.iastore, 1) := by decide +kernel
theorem dX11_feed_27 : decode cX11_feed 27 = .ok (.aload_n 0, 1) := by decide +kernel
theorem dX11_feed_28 : decode cX11_feed 28 = .ok (.getfield 36, 3) := by decide +kernel
theorem dX11_feed_31 : decode cX11_feed 31 = .ok (.iconst 1, 1) := by decide +kernel
theorem dX11_feed_32 : decode cX11_feed 32 = .ok (.iload_n 2, 1) := by decide +kernel
theorem dX11_feed_33 : decode cX11_feed 33 = .ok (.iastore, 1) := by decide +kernel
theorem dX11_feed_34 : decode cX11_feed 34 = .ok (.aload_n 0, 1) := by decide +kernel
theorem dX11_feed_35 : decode cX11_feed 35 = .ok (.getfield 36, 3) := by decide +kernel
theorem dX11_feed_38 : decode cX11_feed 38 = .ok (.iconst 2, 1) := by decide +kernel
theorem dX11_feed_39 : decode cX11_feed 39 = .ok (.iload_n 3, 1) := by decide +kernel
theorem dX11_feed_40 : decode cX11_feed 40 = .ok (.iastore, 1) := by decide +kernel
theorem dX11_feed_41 : decode cX11_feed 41 = .ok (.aload_n 0, 1) := by decide +kernel
theorem dX11_feed_42 : decode cX11_feed 42 = .ok (.getfield 36, 3) := by decide +kernel
theorem dX11_feed_45 : decode cX11_feed 45 = .ok (.iconst 3, 1) := by decide +kernel
theorem dX11_feed_46 : decode cX11_feed 46 = .ok (.iload 4, 2) := by decide +kernel
theorem dX11_feed_48 : decode cX11_feed 48 = .ok (.iastore, 1) := by decide +kernel
theorem dX11_feed_49 : decode cX11_feed 49 = .ok (.aload_n 0, 1) := by decide +kernel
theorem dX11_feed_50 : decode cX11_feed 50 = .ok (.getfield 36, 3) := by decide +kernel
theorem dX11_feed_53 : decode cX11_feed 53 = .ok (.iconst 4, 1) := by decide +kernel
theorem dX11_feed_54 : decode cX11_feed 54 = .ok (.iload 5, 2) := by decide +kernel
theorem dX11_feed_56 : decode cX11_feed 56 = .ok (.iastore, 1) := by decide +kernel
theorem dX11_feed_57 : decode cX11_feed 57 = .ok (.iconst 0, 1) := by decide +kernel
theorem dX11_feed_58 : decode cX11_feed 58 = .ok (.istore 6, 2) := by decide +kernel
theorem dX11_feed_60 : decode cX11_feed 60 = .ok (.iload 6, 2) := by decide +kernel
theorem dX11_feed_62 : decode cX11_feed 62 = .ok (.bipush 20, 2) := by decide +kernel
theorem dX11_feed_64 : decode cX11_feed 64 = .ok (.if_icmp .ge 42, 3) := by decide +kernel
theorem dX11_feed_67 : decode cX11_feed 67 = .ok (.aload_n 0, 1) := by decide +kernel
theorem dX11_feed_68 : decode cX11_feed 68 = .ok (.getfield 29, 3) := by decide +kernel
theorem dX11_feed_71 : decode cX11_feed 71 = .ok (.aload_n 0, 1) := by decide +kernel
theorem dX11_feed_72 : decode cX11_feed 72 = .ok (.getfield 80, 3) := by decide +kernel
theorem dX11_feed_75 : decode cX11_feed 75 = .ok (.iload 6, 2) := by decide +kernel
theorem dX11_feed_77 : decode cX11_feed 77 = .ok (.iadd, 1) := by decide +kernel
theorem dX11_feed_78 : decode cX11_feed 78 = .ok (.aload_n 0, 1) := by decide +kernel
theorem dX11_feed_79 : decode cX11_feed 79 = .ok (.getfield 36, 3) := by decide +kernel
theorem dX11_feed_82 : decode cX11_feed 82 = .ok (.iload 6, 2) := by decide +kernel
theorem dX11_feed_84 : decode cX11_feed 84 = .ok (.iconst 4, 1) := by decide +kernel
theorem dX11_feed_85 : decode cX11_feed 85 = .ok (.idiv, 1) := by decide +kernel
theorem dX11_feed_86 : decode cX11_feed 86 = .ok (.iaload, 1) := by decide +kernel
theorem dX11_feed_87 : decode cX11_feed 87 = .ok (.bipush 24, 2) := by decide +kernel
theorem dX11_feed_89 : decode cX11_feed 89 = .ok (.bipush 8, 2) := by decide +kernel
theorem dX11_feed_91 : decode cX11_feed 91 = .ok (.iload 6, 2) := by decide +kernel
theorem dX11_feed_93 : decode cX11_feed 93 = .ok (.iconst 4, 1) := by decide +kernel
theorem dX11_feed_94 : decode cX11_feed 94 = .ok (.irem, 1) := by decide +kernel
theorem dX11_feed_95 : decode cX11_feed 95 = .ok (.imul, 1) := by decide +kernel
theorem dX11_feed_96 : decode cX11_feed 96 = .ok (.isub, 1) := by decide +kernel
theorem dX11_feed_97 : decode cX11_feed 97 = .ok (.ishr, 1) := by decide +kernel
theorem dX11_feed_98 : decode cX11_feed 98 = .ok (.i2b, 1) := by decide +kernel
theorem dX11_feed_99 : decode cX11_feed 99 = .ok (.bastore, 1) := by decide +kernel
theorem dX11_feed_100 : decode cX11_feed 100 = .ok (.iinc 6 1, 3) := by decide +kernel
theorem dX11_feed_103 : decode cX11_feed 103 = .ok (.goto (-43), 3) := by decide +kernel
theorem dX11_feed_106 : decode cX11_feed 106 = .ok (.aload_n 0, 1) := by decide +kernel
theorem dX11_feed_107 : decode cX11_feed 107 = .ok (.dup, 1) := by decide +kernel
theorem dX11_feed_108 : decode cX11_feed 108 = .ok (.getfield 80, 3) := by decide +kernel
theorem dX11_feed_111 : decode cX11_feed 111 = .ok (.bipush 20, 2) := by decide +kernel
theorem dX11_feed_113 : decode cX11_feed 113 = .ok (.iadd, 1) := by decide +kernel
theorem dX11_feed_114 : decode cX11_feed 114 = .ok (.putfield 80, 3) := by decide +kernel
theorem dX11_feed_117 : decode cX11_feed 117 = .ok (.aload_n 0, 1) := by decide +kernel
theorem dX11_feed_118 : decode cX11_feed 118 = .ok (.getfield 80, 3) := by decide +kernel
theorem dX11_feed_121 : decode cX11_feed 121 = .ok (.ireturn, 1) := by decide +kernel
theorem lf_RX11_80 : gLf RX11 80 11 9 := ⟨(RX11, TX11, 20), rfl, by decide, wA_t (wt6 (List.mem_of_getElem? (i := 222) (by decide +kernel))) (by decide +kernel), rfl⟩
theorem lf_RX11_36 : gLf RX11 36 11 15 := ⟨(RX11, TX11, 20), rfl, by decide, wA_t (wt6 (List.mem_of_getElem? (i := 228) (by decide +kernel))) (by decide +kernel), rfl⟩
theorem lf_RX11_29 : gLf RX11 29 11 8 := ⟨(RX11, TX11, 20), rfl, by decide, wA_t (wt6 (List.mem_of_getElem? (i := 221) (by decide +kernel))) (by decide +kernel), rfl⟩
theorem lp_RX11_80 : gLp RX11 80 11 9 := ⟨(RX11, TX11, 20), rfl, by decide, wA_t (wt6 (List.mem_of_getElem? (i := 222) (by decide +kernel))) (by decide +kernel), rfl, rfl⟩
def rm_X11_feed : Room := { frames := 0, cells := 0, slots := 0, locals := 0 }
def b_X11_feed_60 (τ : gτ) (n : Nat) (x0 : Nat) (x6 : Int32) (G : gG) : Option ((Int32 × gG) ⊕ ((gG))) :=
  if (20 : Int32) ≤ x6 then (some (.inr G))
  else ((gr G 11 8 x0).bind fun a12 =>
  (gr G 11 15 x0).bind fun a13 =>
  gchk (gIn (x6 / (4 : Int32)) (gn τ a13)) <|
  gchk (gIn ((gi G 11 9 x0) + x6) (gn τ a12)) <| gLet (gse G a12 (Int32.toNatClampNeg ((gi G 11 9 x0) + x6)) (vp_nar .byte (((ge G a13 (Int32.toNatClampNeg (x6 / (4 : Int32)))) >>> (((24 : Int32) - ((8 : Int32) * (x6 - x6 / (4 : Int32) * (4 : Int32)))) &&& 31)).toInt8.toInt32))) fun G14 =>
  gLet (x6 + 1) fun v15 =>
  some (.inl (v15, G14)))
def l_X11_feed_60 (τ : gτ) (n : Nat) (x0 : Nat) (x6 : Int32) (G : gG) : Option ((gG)) :=
  gIter (fun (q : Int32 × gG) => b_X11_feed_60 τ n x0 q.1 q.2) n (x6, G)
def k_X11_feed_106 (τ : gτ) (n : Nat) (x0 : Nat)  (G : gG) : Option (Int32 × gG) :=
  gLet (gsi G 11 9 x0 ((gi G 11 9 x0) + (20 : Int32))) fun G17 =>
  some (gi G17 11 9 x0, G17)
def f_X11_feed (τ : gτ) (n : Nat) (x0 : Nat) (x1 : Int32) (x2 : Int32) (x3 : Int32) (x4 : Int32) (x5 : Int32) (G : gG) : Option (Int32 × gG) :=
  gLet (gsi G 11 0 x0 (0 : Int32)) fun G1 =>
  if ((gi G1 11 9 x0) + (20 : Int32)) ≤ (400 : Int32) then ((gr G1 11 15 x0).bind fun a2 =>
  gchk (gIn (0 : Int32) (gn τ a2)) <| gLet (gse G1 a2 (Int32.toNatClampNeg (0 : Int32)) x1) fun G3 =>
  (gr G3 11 15 x0).bind fun a4 =>
  gchk (gIn (1 : Int32) (gn τ a4)) <| gLet (gse G3 a4 (Int32.toNatClampNeg (1 : Int32)) x2) fun G5 =>
  (gr G5 11 15 x0).bind fun a6 =>
  gchk (gIn (2 : Int32) (gn τ a6)) <| gLet (gse G5 a6 (Int32.toNatClampNeg (2 : Int32)) x3) fun G7 =>
  (gr G7 11 15 x0).bind fun a8 =>
  gchk (gIn (3 : Int32) (gn τ a8)) <| gLet (gse G7 a8 (Int32.toNatClampNeg (3 : Int32)) x4) fun G9 =>
  (gr G9 11 15 x0).bind fun a10 =>
  gchk (gIn (4 : Int32) (gn τ a10)) <| gLet (gse G9 a10 (Int32.toNatClampNeg (4 : Int32)) x5) fun G11 =>
  (l_X11_feed_60 τ n x0 (0 : Int32) G11).bind fun q => gLet q fun G16 => 
  k_X11_feed_106 τ n x0  G16)
  else (some ((-1), G1))
set_option maxHeartbeats 4000000 in
set_option maxRecDepth 100000 in
theorem w_b_X11_feed_60 {X : gX} {τ : gτ} {p : Program} {l : Launch} {e : Env} {s : State} {m : MethodId} {args : Array Value} {below : List Frame} {meth : Method} {c : Code} (fx : gFx X p s m args meth c cX11_feed 7 RX11) (n : Nat) (x0 : Nat) (x6 : Int32) (h0 : gK τ x0 11) {Q : State → Prop} {K : ((Int32 × gG) ⊕ ((gG))) → Prop} {G : gG} {H : Heap} {locs : List Loc} {ls : Array Slot} (hw : gHw X τ G H locs) (hl : lv_has ls 7 [(0, .ref x0), (6, .int x6)]) (hok : gOk (b_X11_feed_60 τ n x0 x6 G) K) (hc : ∀ (y6 : Int32) (G : gG) (H : Heap) (locs : List Loc) (ls : Array Slot), gHw X τ G H locs → lv_has ls 7 [(0, .ref x0), (6, .int y6)] → K (.inl (y6, G)) → W p l e rm_X11_feed s m args below meth c H locs 0 0 Q (F0 m 60 ls [])) (hx0 : ∀ (G : gG) (H : Heap) (locs : List Loc) (ls : Array Slot), gHw X τ G H locs → lv_has ls 7 [(0, .ref x0)] → K (.inr G) → W p l e rm_X11_feed s m args below meth c H locs 0 0 Q (F0 m 106 ls [])) : W p l e rm_X11_feed s m args below meth c H locs 0 0 Q (F0 m 60 ls []) := by
  unfold b_X11_feed_60 at hok
  refine lv_iload fx.1 fx.2.1 dX11_feed_60 (lv_at hl 1 rfl) ?_
  refine lv_bipush (v := 20) fx.1 fx.2.1 dX11_feed_62 (by decide) ?_
  refine g_icmp_ge (tgt := 106) fx dX11_feed_64 (by decide) hok (fun hok => ?_) (fun hok => ?_)
  · exact hx0  G _ _ _  hw (lv_sub hl [0] rfl) (gOk_some hok)
  · refine lv_aload_n fx.1 fx.2.1 dX11_feed_67 rfl (lv_at hl 0 rfl) ?_
    refine g_getr fx hw h0 lf_RX11_29 rfl dX11_feed_68 hok (fun a12 h_a12 hok => ?_)
    refine lv_aload_n fx.1 fx.2.1 dX11_feed_71 rfl (lv_at hl 0 rfl) ?_
    refine g_geti fx hw h0 lf_RX11_80 rfl dX11_feed_72 ?_
    refine lv_iload fx.1 fx.2.1 dX11_feed_75 (lv_at hl 1 rfl) ?_
    refine lv_iadd fx.1 fx.2.1 dX11_feed_77 ?_
    refine lv_aload_n fx.1 fx.2.1 dX11_feed_78 rfl (lv_at hl 0 rfl) ?_
    refine g_getr fx hw h0 lf_RX11_36 rfl dX11_feed_79 hok (fun a13 h_a13 hok => ?_)
    refine lv_iload fx.1 fx.2.1 dX11_feed_82 (lv_at hl 1 rfl) ?_
    refine lv_iconst (v := 4) fx.1 fx.2.1 dX11_feed_84 (by decide) ?_
    refine lv_idiv fx.1 fx.2.1 dX11_feed_85 (by decide) ?_
    refine g_iald fx hw h_a13 dX11_feed_86 hok (fun hok => ?_)
    refine lv_bipush (v := 24) fx.1 fx.2.1 dX11_feed_87 (by decide) ?_
    refine lv_bipush (v := 8) fx.1 fx.2.1 dX11_feed_89 (by decide) ?_
    refine lv_iload fx.1 fx.2.1 dX11_feed_91 (lv_at hl 1 rfl) ?_
    refine lv_iconst (v := 4) fx.1 fx.2.1 dX11_feed_93 (by decide) ?_
    refine lv_irem fx.1 fx.2.1 dX11_feed_94 (by decide) ?_
    refine lv_imul fx.1 fx.2.1 dX11_feed_95 ?_
    refine lv_isub fx.1 fx.2.1 dX11_feed_96 ?_
    refine lv_ishr fx.1 fx.2.1 dX11_feed_97 ?_
    refine lv_i2b fx.1 fx.2.1 dX11_feed_98 rfl ?_
    refine g_bast fx hw h_a12 dX11_feed_99 hok (fun G14 H locs hw hok => ?_)
    obtain ⟨v15, e_v15, hok⟩ := gOk_let hok
    refine lv_iinc (v := v15) (lv' := [(6, .int v15), (0, .ref x0)]) fx.1 fx.2.1 dX11_feed_100 hl (k := 1) rfl (by rw [e_v15]; rfl) (by decide) rfl (fun ls hl => ?_)
    refine lv_goto (tgt := 60) fx.1 fx.2.1 dX11_feed_103 (by decide) ?_
    exact hc v15 G14 _ _ _  hw (lv_sub hl [1, 0] rfl) (gOk_some hok)
theorem w_l_X11_feed_60 {X : gX} {τ : gτ} {p : Program} {l : Launch} {e : Env} {s : State} {m : MethodId} {args : Array Value} {below : List Frame} {meth : Method} {c : Code} (fx : gFx X p s m args meth c cX11_feed 7 RX11) (n : Nat) (x0 : Nat) (h0 : gK τ x0 11) {Q : State → Prop} {K : ((gG)) → Prop} (hx0 : ∀ (G : gG) (H : Heap) (locs : List Loc) (ls : Array Slot), gHw X τ G H locs → lv_has ls 7 [(0, .ref x0)] → K G → W p l e rm_X11_feed s m args below meth c H locs 0 0 Q (F0 m 106 ls [])) : ∀ (k : Nat) (x6 : Int32) (G : gG) (H : Heap) (locs : List Loc) (ls : Array Slot), gHw X τ G H locs → lv_has ls 7 [(0, .ref x0), (6, .int x6)] → gOk (gIter (fun (q : Int32 × gG) => b_X11_feed_60 τ n x0 q.1 q.2) k (x6, G)) K → W p l e rm_X11_feed s m args below meth c H locs 0 0 Q (F0 m 60 ls []) := by
  intro k
  induction k with
  | zero =>
    intro x6 G H locs ls hw hl hok
    exact gOk_iter0 hok
  | succ k hc =>
    intro x6 G H locs ls hw hl hok
    exact w_b_X11_feed_60 fx n x0 x6 h0 hw hl (gOk_iter hok) hc hx0
set_option maxHeartbeats 4000000 in
set_option maxRecDepth 100000 in
theorem w_X11_feed_106 {X : gX} {τ : gτ} {p : Program} {l : Launch} {e : Env} {s : State} {m : MethodId} {args : Array Value} {below : List Frame} {meth : Method} {c : Code} (fx : gFx X p s m args meth c cX11_feed 7 RX11) (n : Nat) (x0 : Nat)  (h0 : gK τ x0 11)  (hr : meth.sig.returnType = (some .int)) {r : Int32} {G' : gG} {G : gG} {H : Heap} {locs : List Loc} {ls : Array Slot} (hw : gHw X τ G H locs) (hl : lv_has ls 7 [(0, .ref x0)]) (hok : gOk (k_X11_feed_106 τ n x0  G) (fun q => q = (r, G')))  : W p l e rm_X11_feed s m args below meth c H locs 0 0 (MQ below (gQ X τ (some (.int r)) G') args s 0 0 (gFree X)) (F0 m 106 ls []) := by
  unfold k_X11_feed_106 at hok
  refine lv_aload_n fx.1 fx.2.1 dX11_feed_106 rfl (lv_at hl 0 rfl) ?_
  refine lv_dup fx.1 fx.2.1 dX11_feed_107 rfl ?_
  refine g_geti fx hw h0 lf_RX11_80 rfl dX11_feed_108 ?_
  refine lv_bipush (v := 20) fx.1 fx.2.1 dX11_feed_111 (by decide) ?_
  refine lv_iadd fx.1 fx.2.1 dX11_feed_113 ?_
  refine g_puti fx hw h0 lp_RX11_80 rfl rfl dX11_feed_114 hok (fun G17 H locs hw hok => ?_)
  refine lv_aload_n fx.1 fx.2.1 dX11_feed_117 rfl (lv_at hl 0 rfl) ?_
  refine g_geti fx hw h0 lf_RX11_80 rfl dX11_feed_118 ?_
  cases gOk_some hok
  exact g_iret fx hw hr dX11_feed_121
set_option maxHeartbeats 4000000 in
set_option maxRecDepth 100000 in
theorem c_X11_feed (l : Launch) (X : gX) (τ : gτ) (n : Nat) (x0 : Nat) (x1 : Int32) (x2 : Int32) (x3 : Int32) (x4 : Int32) (x5 : Int32) (G : gG) (h0 : gK τ x0 11) {r : Int32} {G' : gG} (h : f_X11_feed τ n x0 x1 x2 x3 x4 x5 G = some (r, G')) : gM l X τ yX11_feed cX11_feed 7 (some .int) rm_X11_feed [.ref x0, .int x1, .int x2, .int x3, .int x4, .int x5] G (some (.int r)) G' := by
  refine g_body (by decide +kernel) (Nat.le_of_ble_eq_true rfl) ?_
  intro p e s m args below meth c ls fx hr hw hl
  have fx : gFx X p s m args meth c cX11_feed 7 RX11 := fx
  have hl : lv_has ls 7 [(0, .ref x0), (1, .int x1), (2, .int x2), (3, .int x3), (4, .int x4), (5, .int x5)] := hl
  have hok : gOk (f_X11_feed τ n x0 x1 x2 x3 x4 x5 G) (fun q => q = (r, G')) := ⟨_, h, rfl⟩
  unfold f_X11_feed at hok
  show W p l e rm_X11_feed s m args below meth c s.heap [] 0 0 (MQ below (gQ X τ (some (.int r)) G') args s 0 0 (gFree X)) _
  refine lv_aload_n fx.1 fx.2.1 dX11_feed_0 rfl (lv_at hl 0 rfl) ?_
  refine lv_iconst (v := 0) fx.1 fx.2.1 dX11_feed_1 (by decide) ?_
  refine g_puti fx hw h0 lp_RX11_3 rfl rfl dX11_feed_2 hok (fun G1 H locs hw hok => ?_)
  refine lv_aload_n fx.1 fx.2.1 dX11_feed_5 rfl (lv_at hl 0 rfl) ?_
  refine g_geti fx hw h0 lf_RX11_80 rfl dX11_feed_6 ?_
  refine lv_bipush (v := 20) fx.1 fx.2.1 dX11_feed_9 (by decide) ?_
  refine lv_iadd fx.1 fx.2.1 dX11_feed_11 ?_
  refine lv_sipush (v := 400) fx.1 fx.2.1 dX11_feed_12 (by decide) ?_
  refine g_icmp_le (tgt := 20) fx dX11_feed_15 (by decide) hok (fun hok => ?_) (fun hok => ?_)
  · refine lv_aload_n fx.1 fx.2.1 dX11_feed_20 rfl (lv_at hl 0 rfl) ?_
    refine g_getr fx hw h0 lf_RX11_36 rfl dX11_feed_21 hok (fun a2 h_a2 hok => ?_)
    refine lv_iconst (v := 0) fx.1 fx.2.1 dX11_feed_24 (by decide) ?_
    refine lv_iload_n fx.1 fx.2.1 dX11_feed_25 rfl (lv_at hl 1 rfl) ?_
    refine g_iast fx hw h_a2 dX11_feed_26 hok (fun G3 H locs hw hok => ?_)
    refine lv_aload_n fx.1 fx.2.1 dX11_feed_27 rfl (lv_at hl 0 rfl) ?_
    refine g_getr fx hw h0 lf_RX11_36 rfl dX11_feed_28 hok (fun a4 h_a4 hok => ?_)
    refine lv_iconst (v := 1) fx.1 fx.2.1 dX11_feed_31 (by decide) ?_
    refine lv_iload_n fx.1 fx.2.1 dX11_feed_32 rfl (lv_at hl 2 rfl) ?_
    refine g_iast fx hw h_a4 dX11_feed_33 hok (fun G5 H locs hw hok => ?_)
    refine lv_aload_n fx.1 fx.2.1 dX11_feed_34 rfl (lv_at hl 0 rfl) ?_
    refine g_getr fx hw h0 lf_RX11_36 rfl dX11_feed_35 hok (fun a6 h_a6 hok => ?_)
    refine lv_iconst (v := 2) fx.1 fx.2.1 dX11_feed_38 (by decide) ?_
    refine lv_iload_n fx.1 fx.2.1 dX11_feed_39 rfl (lv_at hl 3 rfl) ?_
    refine g_iast fx hw h_a6 dX11_feed_40 hok (fun G7 H locs hw hok => ?_)
    refine lv_aload_n fx.1 fx.2.1 dX11_feed_41 rfl (lv_at hl 0 rfl) ?_
    refine g_getr fx hw h0 lf_RX11_36 rfl dX11_feed_42 hok (fun a8 h_a8 hok => ?_)
    refine lv_iconst (v := 3) fx.1 fx.2.1 dX11_feed_45 (by decide) ?_
    refine lv_iload fx.1 fx.2.1 dX11_feed_46 (lv_at hl 4 rfl) ?_
    refine g_iast fx hw h_a8 dX11_feed_48 hok (fun G9 H locs hw hok => ?_)
    refine lv_aload_n fx.1 fx.2.1 dX11_feed_49 rfl (lv_at hl 0 rfl) ?_
    refine g_getr fx hw h0 lf_RX11_36 rfl dX11_feed_50 hok (fun a10 h_a10 hok => ?_)
    refine lv_iconst (v := 4) fx.1 fx.2.1 dX11_feed_53 (by decide) ?_
    refine lv_iload fx.1 fx.2.1 dX11_feed_54 (lv_at hl 5 rfl) ?_
    refine g_iast fx hw h_a10 dX11_feed_56 hok (fun G11 H locs hw hok => ?_)
    refine lv_iconst (v := 0) fx.1 fx.2.1 dX11_feed_57 (by decide) ?_
    refine lv_istore (lv' := [(6, .int (0 : Int32)), (0, .ref x0), (1, .int x1), (2, .int x2), (3, .int x3), (4, .int x4), (5, .int x5)]) fx.1 fx.2.1 dX11_feed_58 hl (by decide) rfl (fun ls hl => ?_)
    refine w_l_X11_feed_60 fx n x0 h0 ?_ n (0 : Int32) G11 _ _ _  hw (lv_sub hl [1, 0] rfl) (gOk_bindK hok)
    intro G16 H locs ls hw hl hok
    have hok : gOk (ρ := Int32 × gG) (k_X11_feed_106 τ n x0  G16) _ := hok
    exact w_X11_feed_106 fx n x0  h0  hr hw (lv_sub hl [0] rfl) hok
  · refine lv_iconst (v := (-1)) fx.1 fx.2.1 dX11_feed_18 (by decide) ?_
    cases gOk_some hok
    exact g_iret fx hw hr dX11_feed_19
theorem dX11_end_0 : decode cX11_end 0 = .ok (.aload_n 0, 1) := by decide +kernel
theorem dX11_end_1 : decode cX11_end 1 = .ok (.iconst 0, 1) := by decide +kernel
theorem dX11_end_2 : decode cX11_end 2 = .ok (.putfield 3, 3) := by decide +kernel
theorem dX11_end_5 : decode cX11_end 5 = .ok (.iload_n 1, 1) := by decide +kernel
theorem dX11_end_6 : decode cX11_end 6 = .ok (.ifCond .lt 11, 3) := by decide +kernel
theorem dX11_end_9 : decode cX11_end 9 = .ok (.iload_n 1, 1) := by decide +kernel
theorem dX11_end_10 : decode cX11_end 10 = .ok (.aload_n 0, 1) := by decide +kernel
theorem dX11_end_11 : decode cX11_end 11 = .ok (.getfield 80, 3) := by decide +kernel
theorem dX11_end_14 : decode cX11_end 14 = .ok (.if_icmp .le 5, 3) := by decide +kernel
theorem dX11_end_17 : decode cX11_end 17 = .ok (.iconst 0, 1) := by decide +kernel
theorem dX11_end_18 : decode cX11_end 18 = .ok (.ireturn, 1) := by decide +kernel
theorem dX11_end_19 : decode cX11_end 19 = .ok (.aload_n 0, 1) := by decide +kernel
theorem dX11_end_20 : decode cX11_end 20 = .ok (.iload_n 1, 1) := by decide +kernel
theorem dX11_end_21 : decode cX11_end 21 = .ok (.putfield 80, 3) := by decide +kernel
theorem dX11_end_24 : decode cX11_end 24 = .ok (.iconst 1, 1) := by decide +kernel
theorem dX11_end_25 : decode cX11_end 25 = .ok (.ireturn, 1) := by decide +kernel
def rm_X11_end : Room := { frames := 0, cells := 0, slots := 0, locals := 0 }
def f_X11_end (x0 : Nat) (x1 : Int32) (G : gG) : Option (Int32 × gG) :=
  gLet (gsi G 11 0 x0 (0 : Int32)) fun G1 =>
  if x1 < 0 then (some (0, G1))
  else (if x1 ≤ (gi G1 11 9 x0) then (gLet (gsi G1 11 9 x0 x1) fun G2 =>
  some (1, G2))
  else (some (0, G1)))
set_option maxHeartbeats 4000000 in
set_option maxRecDepth 100000 in
theorem c_X11_end (l : Launch) (X : gX) (τ : gτ) (x0 : Nat) (x1 : Int32) (G : gG) (h0 : gK τ x0 11) {r : Int32} {G' : gG} (h : f_X11_end x0 x1 G = some (r, G')) : gM l X τ yX11_end cX11_end 2 (some .boolean) rm_X11_end [.ref x0, .int x1] G (some (.int r)) G' := by
  refine g_body (by decide +kernel) (Nat.le_of_ble_eq_true rfl) ?_
  intro p e s m args below meth c ls fx hr hw hl
  have fx : gFx X p s m args meth c cX11_end 2 RX11 := fx
  have hl : lv_has ls 2 [(0, .ref x0), (1, .int x1)] := hl
  have hok : gOk (f_X11_end x0 x1 G) (fun q => q = (r, G')) := ⟨_, h, rfl⟩
  unfold f_X11_end at hok
  show W p l e rm_X11_end s m args below meth c s.heap [] 0 0 (MQ below (gQ X τ (some (.int r)) G') args s 0 0 (gFree X)) _
  refine lv_aload_n fx.1 fx.2.1 dX11_end_0 rfl (lv_at hl 0 rfl) ?_
  refine lv_iconst (v := 0) fx.1 fx.2.1 dX11_end_1 (by decide) ?_
  refine g_puti fx hw h0 lp_RX11_3 rfl rfl dX11_end_2 hok (fun G1 H locs hw hok => ?_)
  refine lv_iload_n fx.1 fx.2.1 dX11_end_5 rfl (lv_at hl 1 rfl) ?_
  refine g_if_lt (tgt := 17) fx dX11_end_6 (by decide) hok (fun hok => ?_) (fun hok => ?_)
  · refine lv_iconst (v := 0) fx.1 fx.2.1 dX11_end_17 (by decide) ?_
    cases gOk_some hok
    exact g_zret fx hw hr (by decide) dX11_end_18
  · refine lv_iload_n fx.1 fx.2.1 dX11_end_9 rfl (lv_at hl 1 rfl) ?_
    refine lv_aload_n fx.1 fx.2.1 dX11_end_10 rfl (lv_at hl 0 rfl) ?_
    refine g_geti fx hw h0 lf_RX11_80 rfl dX11_end_11 ?_
    refine g_icmp_le (tgt := 19) fx dX11_end_14 (by decide) hok (fun hok => ?_) (fun hok => ?_)
    · refine lv_aload_n fx.1 fx.2.1 dX11_end_19 rfl (lv_at hl 0 rfl) ?_
      refine lv_iload_n fx.1 fx.2.1 dX11_end_20 rfl (lv_at hl 1 rfl) ?_
      refine g_puti fx hw h0 lp_RX11_80 rfl rfl dX11_end_21 hok (fun G2 H locs hw hok => ?_)
      refine lv_iconst (v := 1) fx.1 fx.2.1 dX11_end_24 (by decide) ?_
      cases gOk_some hok
      exact g_zret fx hw hr (by decide) dX11_end_25
    · refine lv_iconst (v := 0) fx.1 fx.2.1 dX11_end_17 (by decide) ?_
      cases gOk_some hok
      exact g_zret fx hw hr (by decide) dX11_end_18
theorem dX11_isAt_0 : decode cX11_isAt 0 = .ok (.aload_n 0, 1) := by decide +kernel
theorem dX11_isAt_1 : decode cX11_isAt 1 = .ok (.getfield 83, 3) := by decide +kernel
theorem dX11_isAt_4 : decode cX11_isAt 4 = .ok (.aload_n 0, 1) := by decide +kernel
theorem dX11_isAt_5 : decode cX11_isAt 5 = .ok (.getfield 86, 3) := by decide +kernel
theorem dX11_isAt_8 : decode cX11_isAt 8 = .ok (.if_icmp .ge 33, 3) := by decide +kernel
theorem dX11_isAt_11 : decode cX11_isAt 11 = .ok (.aload_n 0, 1) := by decide +kernel
theorem dX11_isAt_12 : decode cX11_isAt 12 = .ok (.getfield 29, 3) := by decide +kernel
theorem dX11_isAt_15 : decode cX11_isAt 15 = .ok (.aload_n 0, 1) := by decide +kernel
theorem dX11_isAt_16 : decode cX11_isAt 16 = .ok (.getfield 83, 3) := by decide +kernel
theorem dX11_isAt_19 : decode cX11_isAt 19 = .ok (.baload, 1) := by decide +kernel
theorem dX11_isAt_20 : decode cX11_isAt 20 = .ok (.iload_n 1, 1) := by decide +kernel
theorem dX11_isAt_21 : decode cX11_isAt 21 = .ok (.if_icmp .lt 20, 3) := by decide +kernel
theorem dX11_isAt_24 : decode cX11_isAt 24 = .ok (.aload_n 0, 1) := by decide +kernel
theorem dX11_isAt_25 : decode cX11_isAt 25 = .ok (.getfield 29, 3) := by decide +kernel
theorem dX11_isAt_28 : decode cX11_isAt 28 = .ok (.aload_n 0, 1) := by decide +kernel
theorem dX11_isAt_29 : decode cX11_isAt 29 = .ok (.getfield 83, 3) := by decide +kernel
theorem dX11_isAt_32 : decode cX11_isAt 32 = .ok (.baload, 1) := by decide +kernel
theorem dX11_isAt_33 : decode cX11_isAt 33 = .ok (.iload_n 2, 1) := by decide +kernel
theorem dX11_isAt_34 : decode cX11_isAt 34 = .ok (.if_icmp .gt 7, 3) := by decide +kernel
theorem dX11_isAt_37 : decode cX11_isAt 37 = .ok (.iconst 1, 1) := by decide +kernel
theorem dX11_isAt_38 : decode cX11_isAt 38 = .ok (.goto 4, 3) := by decide +kernel
theorem dX11_isAt_41 : decode cX11_isAt 41 = .ok (.iconst 0, 1) := by decide +kernel
theorem dX11_isAt_42 : decode cX11_isAt 42 = .ok (.ireturn, 1) := by decide +kernel
theorem lf_RX11_83 : gLf RX11 83 11 10 := ⟨(RX11, TX11, 20), rfl, by decide, wA_t (wt6 (List.mem_of_getElem? (i := 223) (by decide +kernel))) (by decide +kernel), rfl⟩
theorem lf_RX11_86 : gLf RX11 86 11 11 := ⟨(RX11, TX11, 20), rfl, by decide, wA_t (wt6 (List.mem_of_getElem? (i := 224) (by decide +kernel))) (by decide +kernel), rfl⟩
def rm_X11_isAt : Room := { frames := 0, cells := 0, slots := 0, locals := 0 }
def f_X11_isAt (τ : gτ) (x0 : Nat) (x1 : Int32) (x2 : Int32) (G : gG) : Option (Int32) :=
  if (gi G 11 11 x0) ≤ (gi G 11 10 x0) then (some (0))
  else ((gr G 11 8 x0).bind fun a1 =>
  gchk (gIn (gi G 11 10 x0) (gn τ a1)) <|
  if (ge G a1 (Int32.toNatClampNeg (gi G 11 10 x0))) < x1 then (some (0))
  else ((gr G 11 8 x0).bind fun a2 =>
  gchk (gIn (gi G 11 10 x0) (gn τ a2)) <|
  if x2 < (ge G a2 (Int32.toNatClampNeg (gi G 11 10 x0))) then (some (0))
  else (some (1))))
set_option maxHeartbeats 4000000 in
set_option maxRecDepth 100000 in
theorem c_X11_isAt (l : Launch) (X : gX) (τ : gτ) (x0 : Nat) (x1 : Int32) (x2 : Int32) (G : gG) (h0 : gK τ x0 11) {r : Int32}  (h : f_X11_isAt τ x0 x1 x2 G = some r) : gM l X τ yX11_isAt cX11_isAt 3 (some .boolean) rm_X11_isAt [.ref x0, .int x1, .int x2] G (some (.int r)) G := by
  refine g_body (by decide +kernel) (Nat.le_of_ble_eq_true rfl) ?_
  intro p e s m args below meth c ls fx hr hw hl
  have fx : gFx X p s m args meth c cX11_isAt 3 RX11 := fx
  have hl : lv_has ls 3 [(0, .ref x0), (1, .int x1), (2, .int x2)] := hl
  have hok : gOk (f_X11_isAt τ x0 x1 x2 G) (fun q => q = r) := ⟨_, h, rfl⟩
  unfold f_X11_isAt at hok
  show W p l e rm_X11_isAt s m args below meth c s.heap [] 0 0 (MQ below (gQ X τ (some (.int r)) G) args s 0 0 (gFree X)) _
  refine lv_aload_n fx.1 fx.2.1 dX11_isAt_0 rfl (lv_at hl 0 rfl) ?_
  refine g_geti fx hw h0 lf_RX11_83 rfl dX11_isAt_1 ?_
  refine lv_aload_n fx.1 fx.2.1 dX11_isAt_4 rfl (lv_at hl 0 rfl) ?_
  refine g_geti fx hw h0 lf_RX11_86 rfl dX11_isAt_5 ?_
  refine g_icmp_ge (tgt := 41) fx dX11_isAt_8 (by decide) hok (fun hok => ?_) (fun hok => ?_)
  · refine lv_iconst (v := 0) fx.1 fx.2.1 dX11_isAt_41 (by decide) ?_
    cases gOk_some hok
    exact g_zret fx hw hr (by decide) dX11_isAt_42
  · refine lv_aload_n fx.1 fx.2.1 dX11_isAt_11 rfl (lv_at hl 0 rfl) ?_
    refine g_getr fx hw h0 lf_RX11_29 rfl dX11_isAt_12 hok (fun a1 h_a1 hok => ?_)
    refine lv_aload_n fx.1 fx.2.1 dX11_isAt_15 rfl (lv_at hl 0 rfl) ?_
    refine g_geti fx hw h0 lf_RX11_83 rfl dX11_isAt_16 ?_
    refine g_bald fx hw h_a1 dX11_isAt_19 hok (fun hok => ?_)
    refine lv_iload_n fx.1 fx.2.1 dX11_isAt_20 rfl (lv_at hl 1 rfl) ?_
    refine g_icmp_lt (tgt := 41) fx dX11_isAt_21 (by decide) hok (fun hok => ?_) (fun hok => ?_)
    · refine lv_iconst (v := 0) fx.1 fx.2.1 dX11_isAt_41 (by decide) ?_
      cases gOk_some hok
      exact g_zret fx hw hr (by decide) dX11_isAt_42
    · refine lv_aload_n fx.1 fx.2.1 dX11_isAt_24 rfl (lv_at hl 0 rfl) ?_
      refine g_getr fx hw h0 lf_RX11_29 rfl dX11_isAt_25 hok (fun a2 h_a2 hok => ?_)
      refine lv_aload_n fx.1 fx.2.1 dX11_isAt_28 rfl (lv_at hl 0 rfl) ?_
      refine g_geti fx hw h0 lf_RX11_83 rfl dX11_isAt_29 ?_
      refine g_bald fx hw h_a2 dX11_isAt_32 hok (fun hok => ?_)
      refine lv_iload_n fx.1 fx.2.1 dX11_isAt_33 rfl (lv_at hl 2 rfl) ?_
      refine g_icmp_gt (tgt := 41) fx dX11_isAt_34 (by decide) hok (fun hok => ?_) (fun hok => ?_)
      · refine lv_iconst (v := 0) fx.1 fx.2.1 dX11_isAt_41 (by decide) ?_
        cases gOk_some hok
        exact g_zret fx hw hr (by decide) dX11_isAt_42
      · refine lv_iconst (v := 1) fx.1 fx.2.1 dX11_isAt_37 (by decide) ?_
        refine lv_goto (tgt := 42) fx.1 fx.2.1 dX11_isAt_38 (by decide) ?_
        cases gOk_some hok
        exact g_zret fx hw hr (by decide) dX11_isAt_42
theorem dX11_blanks_0 : decode cX11_blanks 0 = .ok (.aload_n 0, 1) := by decide +kernel
theorem dX11_blanks_1 : decode cX11_blanks 1 = .ok (.bipush 32, 2) := by decide +kernel
theorem dX11_blanks_3 : decode cX11_blanks 3 = .ok (.bipush 32, 2) := by decide +kernel
theorem dX11_blanks_5 : decode cX11_blanks 5 = .ok (.invokevirtual 89, 3) := by decide +kernel
theorem dX11_blanks_8 : decode cX11_blanks 8 = .ok (.ifCond .eq 16, 3) := by decide +kernel
theorem dX11_blanks_11 : decode cX11_blanks 11 = .ok (.aload_n 0, 1) := by decide +kernel
theorem dX11_blanks_12 : decode cX11_blanks 12 = .ok (.dup, 1) := by decide +kernel
theorem dX11_blanks_13 : decode cX11_blanks 13 = .ok (.getfield 83, 3) := by decide +kernel
theorem dX11_blanks_16 : decode cX11_blanks 16 = .ok (.iconst 1, 1) := by decide +kernel
theorem dX11_blanks_17 : decode cX11_blanks 17 = .ok (.iadd, 1) := by decide +kernel
theorem dX11_blanks_18 : decode cX11_blanks 18 = .ok (.putfield 83, 3) := by decide +kernel
theorem dX11_blanks_21 : decode cX11_blanks 21 = .ok (.goto (-21), 3) := by decide +kernel
theorem dX11_blanks_24 : decode cX11_blanks 24 = .ok (.aload_n 0, 1) := by decide +kernel
theorem dX11_blanks_25 : decode cX11_blanks 25 = .ok (.aload_n 0, 1) := by decide +kernel
theorem dX11_blanks_26 : decode cX11_blanks 26 = .ok (.getfield 83, 3) := by decide +kernel
theorem dX11_blanks_29 : decode cX11_blanks 29 = .ok (.putfield 93, 3) := by decide +kernel
theorem dX11_blanks_32 : decode cX11_blanks 32 = .ok (.return_, 1) := by decide +kernel
theorem lv_RX11_89 : gLv RX11 89 RX11 yX11_isAt cX11_isAt 3 (some .boolean) 2 := gLv_of (wA_t (wt7 (List.mem_of_getElem? (i := 74) (by decide +kernel))) (by decide +kernel)) (wA_t (wt7 (List.mem_of_getElem? (i := 76) (by decide +kernel))) (by decide +kernel)) (wA_of (List.mem_append_left _ (List.mem_map.mpr ⟨(⟨"YearRopeModel", "isAt", "(II)Z"⟩, 20), wp3 (List.mem_of_getElem? (i := 13) (by decide +kernel)), rfl⟩)) (by decide +kernel)) (wA_t (wt1 (List.mem_of_getElem? (i := 12) (by decide +kernel))) (by decide +kernel)) (wA_t (wt7 (List.mem_of_getElem? (i := 77) (by decide +kernel))) (by decide +kernel)) ⟨rfl, by decide +kernel, by decide +kernel, by decide +kernel⟩
theorem lp_RX11_83 : gLp RX11 83 11 10 := ⟨(RX11, TX11, 20), rfl, by decide, wA_t (wt6 (List.mem_of_getElem? (i := 223) (by decide +kernel))) (by decide +kernel), rfl, rfl⟩
theorem lp_RX11_93 : gLp RX11 93 11 12 := ⟨(RX11, TX11, 20), rfl, by decide, wA_t (wt6 (List.mem_of_getElem? (i := 225) (by decide +kernel))) (by decide +kernel), rfl, rfl⟩
def rm_X11_blanks : Room := { frames := 1, cells := 0, slots := 0, locals := 22 }
def b_X11_blanks_0 (τ : gτ) (n : Nat) (x0 : Nat) (G : gG) : Option ((gG) ⊕ ((gG))) :=
  (f_X11_isAt τ x0 (32 : Int32) (32 : Int32) G).bind fun v1 =>
  if v1 = 0 then (some (.inr G))
  else (gLet (gsi G 11 10 x0 ((gi G 11 10 x0) + (1 : Int32))) fun G2 =>
  some (.inl G2))
def l_X11_blanks_0 (τ : gτ) (n : Nat) (x0 : Nat) (G : gG) : Option ((gG)) :=
  gIter (fun (q : gG) => b_X11_blanks_0 τ n x0 q) n G
def k_X11_blanks_24 (τ : gτ) (n : Nat) (x0 : Nat)  (G : gG) : Option (gG) :=
  gLet (gsi G 11 12 x0 (gi G 11 10 x0)) fun G4 =>
  some G4
def f_X11_blanks (τ : gτ) (n : Nat) (x0 : Nat) (G : gG) : Option (gG) :=
  (l_X11_blanks_0 τ n x0 G).bind fun q => gLet q fun G3 => 
  k_X11_blanks_24 τ n x0  G3
set_option maxHeartbeats 4000000 in
set_option maxRecDepth 100000 in
theorem w_b_X11_blanks_0 {X : gX} {τ : gτ} {p : Program} {l : Launch} {e : Env} {s : State} {m : MethodId} {args : Array Value} {below : List Frame} {meth : Method} {c : Code} (fx : gFx X p s m args meth c cX11_blanks 1 RX11) (n : Nat) (x0 : Nat) (h0 : gK τ x0 11) {Q : State → Prop} {K : ((gG) ⊕ ((gG))) → Prop} {G : gG} {H : Heap} {locs : List Loc} {ls : Array Slot} (hw : gHw X τ G H locs) (hl : lv_has ls 1 [(0, .ref x0)]) (hok : gOk (b_X11_blanks_0 τ n x0 G) K) (hc : ∀ (G : gG) (H : Heap) (locs : List Loc) (ls : Array Slot), gHw X τ G H locs → lv_has ls 1 [(0, .ref x0)] → K (.inl G) → W p l e rm_X11_blanks s m args below meth c H locs 0 0 Q (F0 m 0 ls [])) (hx0 : ∀ (G : gG) (H : Heap) (locs : List Loc) (ls : Array Slot), gHw X τ G H locs → lv_has ls 1 [(0, .ref x0)] → K (.inr G) → W p l e rm_X11_blanks s m args below meth c H locs 0 0 Q (F0 m 24 ls [])) : W p l e rm_X11_blanks s m args below meth c H locs 0 0 Q (F0 m 0 ls []) := by
  unfold b_X11_blanks_0 at hok
  refine lv_aload_n fx.1 fx.2.1 dX11_blanks_0 rfl (lv_at hl 0 rfl) ?_
  refine lv_bipush (v := 32) fx.1 fx.2.1 dX11_blanks_1 (by decide) ?_
  refine lv_bipush (v := 32) fx.1 fx.2.1 dX11_blanks_3 (by decide) ?_
  obtain ⟨v1, hf, hok⟩ := gOk_bind hok
  refine g_callV0 (κ := 11) fx hw (c_X11_isAt l X τ x0 (32 : Int32) (32 : Int32) G h0 hf) lv_RX11_89 ⟨rfl, rfl⟩ rfl rfl h0 rfl hl.1 rfl ⟨Nat.le_of_ble_eq_true rfl, Nat.le_of_ble_eq_true rfl⟩ (Nat.le_of_ble_eq_true rfl) ⟨Nat.le_of_ble_eq_true rfl, Nat.le_of_ble_eq_true rfl⟩ dX11_blanks_5 (fun H locs hw => ?_)
  refine g_if_eq (tgt := 24) fx dX11_blanks_8 (by decide) hok (fun hok => ?_) (fun hok => ?_)
  · exact hx0  G _ _ _  hw (lv_sub hl [0] rfl) (gOk_some hok)
  · refine lv_aload_n fx.1 fx.2.1 dX11_blanks_11 rfl (lv_at hl 0 rfl) ?_
    refine lv_dup fx.1 fx.2.1 dX11_blanks_12 rfl ?_
    refine g_geti fx hw h0 lf_RX11_83 rfl dX11_blanks_13 ?_
    refine lv_iconst (v := 1) fx.1 fx.2.1 dX11_blanks_16 (by decide) ?_
    refine lv_iadd fx.1 fx.2.1 dX11_blanks_17 ?_
    refine g_puti fx hw h0 lp_RX11_83 rfl rfl dX11_blanks_18 hok (fun G2 H locs hw hok => ?_)
    refine lv_goto (tgt := 0) fx.1 fx.2.1 dX11_blanks_21 (by decide) ?_
    exact hc  G2 _ _ _  hw (lv_sub hl [0] rfl) (gOk_some hok)
theorem w_l_X11_blanks_0 {X : gX} {τ : gτ} {p : Program} {l : Launch} {e : Env} {s : State} {m : MethodId} {args : Array Value} {below : List Frame} {meth : Method} {c : Code} (fx : gFx X p s m args meth c cX11_blanks 1 RX11) (n : Nat) (x0 : Nat) (h0 : gK τ x0 11) {Q : State → Prop} {K : ((gG)) → Prop} (hx0 : ∀ (G : gG) (H : Heap) (locs : List Loc) (ls : Array Slot), gHw X τ G H locs → lv_has ls 1 [(0, .ref x0)] → K G → W p l e rm_X11_blanks s m args below meth c H locs 0 0 Q (F0 m 24 ls [])) : ∀ (k : Nat) (G : gG) (H : Heap) (locs : List Loc) (ls : Array Slot), gHw X τ G H locs → lv_has ls 1 [(0, .ref x0)] → gOk (gIter (fun (q : gG) => b_X11_blanks_0 τ n x0 q) k G) K → W p l e rm_X11_blanks s m args below meth c H locs 0 0 Q (F0 m 0 ls []) := by
  intro k
  induction k with
  | zero =>
    intro G H locs ls hw hl hok
    exact gOk_iter0 hok
  | succ k hc =>
    intro G H locs ls hw hl hok
    exact w_b_X11_blanks_0 fx n x0 h0 hw hl (gOk_iter hok) hc hx0
set_option maxHeartbeats 4000000 in
set_option maxRecDepth 100000 in
theorem w_X11_blanks_24 {X : gX} {τ : gτ} {p : Program} {l : Launch} {e : Env} {s : State} {m : MethodId} {args : Array Value} {below : List Frame} {meth : Method} {c : Code} (fx : gFx X p s m args meth c cX11_blanks 1 RX11) (n : Nat) (x0 : Nat)  (h0 : gK τ x0 11)  (hr : meth.sig.returnType = none) {G' : gG} {G : gG} {H : Heap} {locs : List Loc} {ls : Array Slot} (hw : gHw X τ G H locs) (hl : lv_has ls 1 [(0, .ref x0)]) (hok : gOk (k_X11_blanks_24 τ n x0  G) (fun q => q = G'))  : W p l e rm_X11_blanks s m args below meth c H locs 0 0 (MQ below (gQ X τ none G') args s 0 0 (gFree X)) (F0 m 24 ls []) := by
  unfold k_X11_blanks_24 at hok
  refine lv_aload_n fx.1 fx.2.1 dX11_blanks_24 rfl (lv_at hl 0 rfl) ?_
  refine lv_aload_n fx.1 fx.2.1 dX11_blanks_25 rfl (lv_at hl 0 rfl) ?_
  refine g_geti fx hw h0 lf_RX11_83 rfl dX11_blanks_26 ?_
  refine g_puti fx hw h0 lp_RX11_93 rfl rfl dX11_blanks_29 hok (fun G4 H locs hw hok => ?_)
  cases gOk_some hok
  exact g_vret fx hw hr dX11_blanks_32
set_option maxHeartbeats 4000000 in
set_option maxRecDepth 100000 in
theorem c_X11_blanks (l : Launch) (X : gX) (τ : gτ) (n : Nat) (x0 : Nat) (G : gG) (h0 : gK τ x0 11) {G' : gG} (h : f_X11_blanks τ n x0 G = some G') : gM l X τ yX11_blanks cX11_blanks 1 none rm_X11_blanks [.ref x0] G none G' := by
  refine g_body (by decide +kernel) (Nat.le_of_ble_eq_true rfl) ?_
  intro p e s m args below meth c ls fx hr hw hl
  have fx : gFx X p s m args meth c cX11_blanks 1 RX11 := fx
  have hl : lv_has ls 1 [(0, .ref x0)] := hl
  have hok : gOk (f_X11_blanks τ n x0 G) (fun q => q = G') := ⟨_, h, rfl⟩
  unfold f_X11_blanks at hok
  show W p l e rm_X11_blanks s m args below meth c s.heap [] 0 0 (MQ below (gQ X τ none G') args s 0 0 (gFree X)) _
  refine w_l_X11_blanks_0 fx n x0 h0 ?_ n  G _ _ _  hw (lv_sub hl [0] rfl) (gOk_bindK hok)
  intro G3 H locs ls hw hl hok
  have hok : gOk (ρ := gG) (k_X11_blanks_24 τ n x0  G3) _ := hok
  exact w_X11_blanks_24 fx n x0  h0  hr hw (lv_sub hl [0] rfl) hok
theorem dX11_letters_0 : decode cX11_letters 0 = .ok (.aload_n 0, 1) := by decide +kernel
theorem dX11_letters_1 : decode cX11_letters 1 = .ok (.invokevirtual 96, 3) := by decide +kernel
theorem dX11_letters_4 : decode cX11_letters 4 = .ok (.aload_n 0, 1) := by decide +kernel
theorem dX11_letters_5 : decode cX11_letters 5 = .ok (.bipush 97, 2) := by decide +kernel
theorem dX11_letters_7 : decode cX11_letters 7 = .ok (.bipush 122, 2) := by decide +kernel
theorem dX11_letters_9 : decode cX11_letters 9 = .ok (.invokevirtual 89, 3) := by decide +kernel
theorem dX11_letters_12 : decode cX11_letters 12 = .ok (.ifCond .eq 16, 3) := by decide +kernel
theorem dX11_letters_15 : decode cX11_letters 15 = .ok (.aload_n 0, 1) := by decide +kernel
theorem dX11_letters_16 : decode cX11_letters 16 = .ok (.dup, 1) := by decide +kernel
theorem dX11_letters_17 : decode cX11_letters 17 = .ok (.getfield 83, 3) := by decide +kernel
theorem dX11_letters_20 : decode cX11_letters 20 = .ok (.iconst 1, 1) := by decide +kernel
theorem dX11_letters_21 : decode cX11_letters 21 = .ok (.iadd, 1) := by decide +kernel
theorem dX11_letters_22 : decode cX11_letters 22 = .ok (.putfield 83, 3) := by decide +kernel
theorem dX11_letters_25 : decode cX11_letters 25 = .ok (.goto (-21), 3) := by decide +kernel
theorem dX11_letters_28 : decode cX11_letters 28 = .ok (.return_, 1) := by decide +kernel
theorem lv_RX11_96 : gLv RX11 96 RX11 yX11_blanks cX11_blanks 1 none 0 := gLv_of (wA_t (wt7 (List.mem_of_getElem? (i := 70) (by decide +kernel))) (by decide +kernel)) (wA_t (wt7 (List.mem_of_getElem? (i := 72) (by decide +kernel))) (by decide +kernel)) (wA_of (List.mem_append_left _ (List.mem_map.mpr ⟨(⟨"YearRopeModel", "blanks", "()V"⟩, 20), wp3 (List.mem_of_getElem? (i := 12) (by decide +kernel)), rfl⟩)) (by decide +kernel)) (wA_t (wt1 (List.mem_of_getElem? (i := 12) (by decide +kernel))) (by decide +kernel)) (wA_t (wt7 (List.mem_of_getElem? (i := 73) (by decide +kernel))) (by decide +kernel)) ⟨rfl, by decide +kernel, by decide +kernel, by decide +kernel⟩
def rm_X11_letters : Room := { frames := 2, cells := 0, slots := 0, locals := 42 }
def b_X11_letters_4 (τ : gτ) (n : Nat) (x0 : Nat) (G : gG) : Option ((gG) ⊕ ((gG))) :=
  (f_X11_isAt τ x0 (97 : Int32) (122 : Int32) G).bind fun v2 =>
  if v2 = 0 then (some (.inr G))
  else (gLet (gsi G 11 10 x0 ((gi G 11 10 x0) + (1 : Int32))) fun G3 =>
  some (.inl G3))
def l_X11_letters_4 (τ : gτ) (n : Nat) (x0 : Nat) (G : gG) : Option ((gG)) :=
  gIter (fun (q : gG) => b_X11_letters_4 τ n x0 q) n G
def f_X11_letters (τ : gτ) (n : Nat) (x0 : Nat) (G : gG) : Option (gG) :=
  (f_X11_blanks τ n x0 G).bind fun G1 =>
  (l_X11_letters_4 τ n x0 G1).bind fun q => gLet q fun G4 => 
  some G4
set_option maxHeartbeats 4000000 in
set_option maxRecDepth 100000 in
theorem w_b_X11_letters_4 {X : gX} {τ : gτ} {p : Program} {l : Launch} {e : Env} {s : State} {m : MethodId} {args : Array Value} {below : List Frame} {meth : Method} {c : Code} (fx : gFx X p s m args meth c cX11_letters 1 RX11) (n : Nat) (x0 : Nat) (h0 : gK τ x0 11) {Q : State → Prop} {K : ((gG) ⊕ ((gG))) → Prop} {G : gG} {H : Heap} {locs : List Loc} {ls : Array Slot} (hw : gHw X τ G H locs) (hl : lv_has ls 1 [(0, .ref x0)]) (hok : gOk (b_X11_letters_4 τ n x0 G) K) (hc : ∀ (G : gG) (H : Heap) (locs : List Loc) (ls : Array Slot), gHw X τ G H locs → lv_has ls 1 [(0, .ref x0)] → K (.inl G) → W p l e rm_X11_letters s m args below meth c H locs 0 0 Q (F0 m 4 ls [])) (hx0 : ∀ (G : gG) (H : Heap) (locs : List Loc) (ls : Array Slot), gHw X τ G H locs → lv_has ls 1 [] → K (.inr G) → W p l e rm_X11_letters s m args below meth c H locs 0 0 Q (F0 m 28 ls [])) : W p l e rm_X11_letters s m args below meth c H locs 0 0 Q (F0 m 4 ls []) := by
  unfold b_X11_letters_4 at hok
  refine lv_aload_n fx.1 fx.2.1 dX11_letters_4 rfl (lv_at hl 0 rfl) ?_
  refine lv_bipush (v := 97) fx.1 fx.2.1 dX11_letters_5 (by decide) ?_
  refine lv_bipush (v := 122) fx.1 fx.2.1 dX11_letters_7 (by decide) ?_
  obtain ⟨v2, hf, hok⟩ := gOk_bind hok
  refine g_callV0 (κ := 11) fx hw (c_X11_isAt l X τ x0 (97 : Int32) (122 : Int32) G h0 hf) lv_RX11_89 ⟨rfl, rfl⟩ rfl rfl h0 rfl hl.1 rfl ⟨Nat.le_of_ble_eq_true rfl, Nat.le_of_ble_eq_true rfl⟩ (Nat.le_of_ble_eq_true rfl) ⟨Nat.le_of_ble_eq_true rfl, Nat.le_of_ble_eq_true rfl⟩ dX11_letters_9 (fun H locs hw => ?_)
  refine g_if_eq (tgt := 28) fx dX11_letters_12 (by decide) hok (fun hok => ?_) (fun hok => ?_)
  · exact hx0  G _ _ _  hw (lv_sub hl [] rfl) (gOk_some hok)
  · refine lv_aload_n fx.1 fx.2.1 dX11_letters_15 rfl (lv_at hl 0 rfl) ?_
    refine lv_dup fx.1 fx.2.1 dX11_letters_16 rfl ?_
    refine g_geti fx hw h0 lf_RX11_83 rfl dX11_letters_17 ?_
    refine lv_iconst (v := 1) fx.1 fx.2.1 dX11_letters_20 (by decide) ?_
    refine lv_iadd fx.1 fx.2.1 dX11_letters_21 ?_
    refine g_puti fx hw h0 lp_RX11_83 rfl rfl dX11_letters_22 hok (fun G3 H locs hw hok => ?_)
    refine lv_goto (tgt := 4) fx.1 fx.2.1 dX11_letters_25 (by decide) ?_
    exact hc  G3 _ _ _  hw (lv_sub hl [0] rfl) (gOk_some hok)
theorem w_l_X11_letters_4 {X : gX} {τ : gτ} {p : Program} {l : Launch} {e : Env} {s : State} {m : MethodId} {args : Array Value} {below : List Frame} {meth : Method} {c : Code} (fx : gFx X p s m args meth c cX11_letters 1 RX11) (n : Nat) (x0 : Nat) (h0 : gK τ x0 11) {Q : State → Prop} {K : ((gG)) → Prop} (hx0 : ∀ (G : gG) (H : Heap) (locs : List Loc) (ls : Array Slot), gHw X τ G H locs → lv_has ls 1 [] → K G → W p l e rm_X11_letters s m args below meth c H locs 0 0 Q (F0 m 28 ls [])) : ∀ (k : Nat) (G : gG) (H : Heap) (locs : List Loc) (ls : Array Slot), gHw X τ G H locs → lv_has ls 1 [(0, .ref x0)] → gOk (gIter (fun (q : gG) => b_X11_letters_4 τ n x0 q) k G) K → W p l e rm_X11_letters s m args below meth c H locs 0 0 Q (F0 m 4 ls []) := by
  intro k
  induction k with
  | zero =>
    intro G H locs ls hw hl hok
    exact gOk_iter0 hok
  | succ k hc =>
    intro G H locs ls hw hl hok
    exact w_b_X11_letters_4 fx n x0 h0 hw hl (gOk_iter hok) hc hx0
set_option maxHeartbeats 4000000 in
set_option maxRecDepth 100000 in
theorem c_X11_letters (l : Launch) (X : gX) (τ : gτ) (n : Nat) (x0 : Nat) (G : gG) (h0 : gK τ x0 11) {G' : gG} (h : f_X11_letters τ n x0 G = some G') : gM l X τ yX11_letters cX11_letters 1 none rm_X11_letters [.ref x0] G none G' := by
  refine g_body (by decide +kernel) (Nat.le_of_ble_eq_true rfl) ?_
  intro p e s m args below meth c ls fx hr hw hl
  have fx : gFx X p s m args meth c cX11_letters 1 RX11 := fx
  have hl : lv_has ls 1 [(0, .ref x0)] := hl
  have hok : gOk (f_X11_letters τ n x0 G) (fun q => q = G') := ⟨_, h, rfl⟩
  unfold f_X11_letters at hok
  show W p l e rm_X11_letters s m args below meth c s.heap [] 0 0 (MQ below (gQ X τ none G') args s 0 0 (gFree X)) _
  refine lv_aload_n fx.1 fx.2.1 dX11_letters_0 rfl (lv_at hl 0 rfl) ?_
  obtain ⟨G1, hf, hok⟩ := gOk_bind hok
  refine g_callV0 (κ := 11) fx hw (c_X11_blanks l X τ n x0 G h0 hf) lv_RX11_96 ⟨rfl, rfl⟩ rfl rfl h0 rfl hl.1 rfl ⟨Nat.le_of_ble_eq_true rfl, Nat.le_of_ble_eq_true rfl⟩ (Nat.le_of_ble_eq_true rfl) ⟨Nat.le_of_ble_eq_true rfl, Nat.le_of_ble_eq_true rfl⟩ dX11_letters_1 (fun H locs hw => ?_)
  refine w_l_X11_letters_4 fx n x0 h0 ?_ n  G1 _ _ _  hw (lv_sub hl [0] rfl) (gOk_bindK hok)
  intro G4 H locs ls hw hl hok
  have hok : gOk (ρ := gG) (some G4) _ := hok
  cases gOk_some hok
  exact g_vret fx hw hr dX11_letters_28
theorem dX11_isWord_0 : decode cX11_isWord 0 = .ok (.aload_n 0, 1) := by decide +kernel
theorem dX11_isWord_1 : decode cX11_isWord 1 = .ok (.getfield 83, 3) := by decide +kernel
theorem dX11_isWord_4 : decode cX11_isWord 4 = .ok (.aload_n 0, 1) := by decide +kernel
theorem dX11_isWord_5 : decode cX11_isWord 5 = .ok (.getfield 93, 3) := by decide +kernel
theorem dX11_isWord_8 : decode cX11_isWord 8 = .ok (.isub, 1) := by decide +kernel
theorem dX11_isWord_9 : decode cX11_isWord 9 = .ok (.aload_n 1, 1) := by decide +kernel
theorem dX11_isWord_10 : decode cX11_isWord 10 = .ok (.invokevirtual 99, 3) := by decide +kernel
theorem dX11_isWord_13 : decode cX11_isWord 13 = .ok (.if_icmp .ne 7, 3) := by decide +kernel
theorem dX11_isWord_16 : decode cX11_isWord 16 = .ok (.iconst 1, 1) := by decide +kernel
theorem dX11_isWord_17 : decode cX11_isWord 17 = .ok (.goto 4, 3) := by decide +kernel
theorem dX11_isWord_20 : decode cX11_isWord 20 = .ok (.iconst 0, 1) := by decide +kernel
theorem dX11_isWord_21 : decode cX11_isWord 21 = .ok (.istore_n 2, 1) := by decide +kernel
theorem dX11_isWord_22 : decode cX11_isWord 22 = .ok (.iconst 0, 1) := by decide +kernel
theorem dX11_isWord_23 : decode cX11_isWord 23 = .ok (.istore_n 3, 1) := by decide +kernel
theorem dX11_isWord_24 : decode cX11_isWord 24 = .ok (.iload_n 2, 1) := by decide +kernel
theorem dX11_isWord_25 : decode cX11_isWord 25 = .ok (.ifCond .eq 42, 3) := by decide +kernel
theorem dX11_isWord_28 : decode cX11_isWord 28 = .ok (.iload_n 3, 1) := by decide +kernel
theorem dX11_isWord_29 : decode cX11_isWord 29 = .ok (.aload_n 1, 1) := by decide +kernel
theorem dX11_isWord_30 : decode cX11_isWord 30 = .ok (.invokevirtual 99, 3) := by decide +kernel
theorem dX11_isWord_33 : decode cX11_isWord 33 = .ok (.if_icmp .ge 34, 3) := by decide +kernel
theorem dX11_isWord_36 : decode cX11_isWord 36 = .ok (.aload_n 0, 1) := by decide +kernel
theorem dX11_isWord_37 : decode cX11_isWord 37 = .ok (.getfield 29, 3) := by decide +kernel
theorem dX11_isWord_40 : decode cX11_isWord 40 = .ok (.aload_n 0, 1) := by decide +kernel
theorem dX11_isWord_41 : decode cX11_isWord 41 = .ok (.getfield 93, 3) := by decide +kernel
theorem dX11_isWord_44 : decode cX11_isWord 44 = .ok (.iload_n 3, 1) := by decide +kernel
theorem dX11_isWord_45 : decode cX11_isWord 45 = .ok (.iadd, 1) := by decide +kernel
theorem dX11_isWord_46 : decode cX11_isWord 46 = .ok (.baload, 1) := by decide +kernel
theorem dX11_isWord_47 : decode cX11_isWord 47 = .ok (.aload_n 1, 1) := by decide +kernel
theorem dX11_isWord_48 : decode cX11_isWord 48 = .ok (.iload_n 3, 1) := by decide +kernel
theorem dX11_isWord_49 : decode cX11_isWord 49 = .ok (.invokevirtual 104, 3) := by decide +kernel
theorem dX11_isWord_52 : decode cX11_isWord 52 = .ok (.if_icmp .ne 7, 3) := by decide +kernel
theorem dX11_isWord_55 : decode cX11_isWord 55 = .ok (.iconst 1, 1) := by decide +kernel
theorem dX11_isWord_56 : decode cX11_isWord 56 = .ok (.goto 4, 3) := by decide +kernel
theorem dX11_isWord_59 : decode cX11_isWord 59 = .ok (.iconst 0, 1) := by decide +kernel
theorem dX11_isWord_60 : decode cX11_isWord 60 = .ok (.istore_n 2, 1) := by decide +kernel
theorem dX11_isWord_61 : decode cX11_isWord 61 = .ok (.iinc 3 1, 3) := by decide +kernel
theorem dX11_isWord_64 : decode cX11_isWord 64 = .ok (.goto (-40), 3) := by decide +kernel
theorem dX11_isWord_67 : decode cX11_isWord 67 = .ok (.iload_n 2, 1) := by decide +kernel
theorem dX11_isWord_68 : decode cX11_isWord 68 = .ok (.ireturn, 1) := by decide +kernel
theorem lf_RX11_93 : gLf RX11 93 11 12 := ⟨(RX11, TX11, 20), rfl, by decide, wA_t (wt6 (List.mem_of_getElem? (i := 225) (by decide +kernel))) (by decide +kernel), rfl⟩
theorem lv_RX11_99 : gLv RX11 99 RJ0 yJ0_length_8abf5 cJ0_length_8abf5 1 (some .int) 0 := gLv_of (wA_t (wt7 (List.mem_of_getElem? (i := 95) (by decide +kernel))) (by decide +kernel)) (wA_t (wt3 (List.mem_of_getElem? (i := 175) (by decide +kernel))) (by decide +kernel)) (wA_t (wt3 (List.mem_of_getElem? (i := 176) (by decide +kernel))) (by decide +kernel)) (wA_t (wt1 (List.mem_of_getElem? (i := 14) (by decide +kernel))) (by decide +kernel)) (wA_t (wt3 (List.mem_of_getElem? (i := 177) (by decide +kernel))) (by decide +kernel)) ⟨rfl, by decide +kernel, by decide +kernel, by decide +kernel⟩
theorem lv_RX11_104 : gLv RX11 104 RJ0 yJ0_charAt_5068e cJ0_charAt_5068e 2 (some .char) 1 := gLv_of (wA_t (wt7 (List.mem_of_getElem? (i := 96) (by decide +kernel))) (by decide +kernel)) (wA_t (wt3 (List.mem_of_getElem? (i := 185) (by decide +kernel))) (by decide +kernel)) (wA_t (wt3 (List.mem_of_getElem? (i := 186) (by decide +kernel))) (by decide +kernel)) (wA_t (wt1 (List.mem_of_getElem? (i := 14) (by decide +kernel))) (by decide +kernel)) (wA_t (wt3 (List.mem_of_getElem? (i := 187) (by decide +kernel))) (by decide +kernel)) ⟨rfl, by decide +kernel, by decide +kernel, by decide +kernel⟩
def rm_X11_isWord : Room := { frames := 4, cells := 0, slots := 0, locals := 160 }
def b_X11_isWord_24 (τ : gτ) (n : Nat) (x0 : Nat) (x1 : List Int32) (x2 : Int32) (x3 : Int32) (G : gG) : Option ((Int32 × Int32) ⊕ ((Int32))) :=
  if x2 = 0 then (some (.inr x2))
  else (if (nI (List.length x1)) ≤ x3 then (some (.inr x2))
  else ((gr G 11 8 x0).bind fun a1 =>
  gchk (gIn ((gi G 11 12 x0) + x3) (gn τ a1)) <|
  gchk (gIn x3 (List.length x1)) <|
  if (ge G a1 (Int32.toNatClampNeg ((gi G 11 12 x0) + x3))) = (gch x1 x3) then (gLet (x3 + 1) fun v2 =>
  some (.inl (1, v2)))
  else (gLet (x3 + 1) fun v3 =>
  some (.inl (0, v3)))))
def l_X11_isWord_24 (τ : gτ) (n : Nat) (x0 : Nat) (x1 : List Int32) (x2 : Int32) (x3 : Int32) (G : gG) : Option ((Int32)) :=
  gIter (fun (q : Int32 × Int32) => b_X11_isWord_24 τ n x0 x1 q.1 q.2 G) n (x2, x3)
def k_X11_isWord_21 (τ : gτ) (n : Nat) (x0 : Nat) (x1 : List Int32) (s0 : Int32) (G : gG) : Option (Int32) :=
  (l_X11_isWord_24 τ n x0 x1 s0 (0 : Int32) G).bind fun q => gLet q fun z4 => 
  gchk (z4 = 0 ∨ z4 = 1) <| some (z4)
def f_X11_isWord (τ : gτ) (n : Nat) (x0 : Nat) (x1 : List Int32) (G : gG) : Option (Int32) :=
  if ((gi G 11 10 x0) - (gi G 11 12 x0)) = (nI (List.length x1)) then (k_X11_isWord_21 τ n x0 x1 (1 : Int32) G)
  else (k_X11_isWord_21 τ n x0 x1 (0 : Int32) G)
set_option maxHeartbeats 4000000 in
set_option maxRecDepth 100000 in
theorem w_b_X11_isWord_24 {X : gX} {τ : gτ} {p : Program} {l : Launch} {e : Env} {s : State} {m : MethodId} {args : Array Value} {below : List Frame} {meth : Method} {c : Code} (fx : gFx X p s m args meth c cX11_isWord 4 RX11) (hS : gS0 l X) (n : Nat) (x0 : Nat) (x1 : List Int32) (x2 : Int32) (x3 : Int32) (h0 : gK τ x0 11) {w1 : Nat} (h_w1 : gStr X w1 x1) {Q : State → Prop} {K : ((Int32 × Int32) ⊕ ((Int32))) → Prop} {G : gG} {H : Heap} {locs : List Loc} {ls : Array Slot} (hw : gHw X τ G H locs) (hl : lv_has ls 4 [(0, .ref x0), (1, .ref w1), (2, .int x2), (3, .int x3)]) (hok : gOk (b_X11_isWord_24 τ n x0 x1 x2 x3 G) K) (hc : ∀ (y2 : Int32) (y3 : Int32) (H : Heap) (locs : List Loc) (ls : Array Slot), gHw X τ G H locs → lv_has ls 4 [(0, .ref x0), (1, .ref w1), (2, .int y2), (3, .int y3)] → K (.inl (y2, y3)) → W p l e rm_X11_isWord s m args below meth c H locs 0 0 Q (F0 m 24 ls [])) (hx0 : ∀ (y2 : Int32) (H : Heap) (locs : List Loc) (ls : Array Slot), gHw X τ G H locs → lv_has ls 4 [(2, .int y2)] → K (.inr y2) → W p l e rm_X11_isWord s m args below meth c H locs 0 0 Q (F0 m 67 ls [])) : W p l e rm_X11_isWord s m args below meth c H locs 0 0 Q (F0 m 24 ls []) := by
  unfold b_X11_isWord_24 at hok
  refine lv_iload_n fx.1 fx.2.1 dX11_isWord_24 rfl (lv_at hl 2 rfl) ?_
  refine g_if_eq (tgt := 67) fx dX11_isWord_25 (by decide) hok (fun hok => ?_) (fun hok => ?_)
  · exact hx0 x2  _ _ _  hw (lv_sub hl [2] rfl) (gOk_some hok)
  · refine lv_iload_n fx.1 fx.2.1 dX11_isWord_28 rfl (lv_at hl 3 rfl) ?_
    refine lv_aload_n fx.1 fx.2.1 dX11_isWord_29 rfl (lv_at hl 1 rfl) ?_
    refine g_callT0 fx hw (c_strLen l X τ hS h_w1 G) lv_RX11_99 ⟨rfl, rfl⟩ h_w1.1 rfl hl.1 rfl ⟨Nat.le_of_ble_eq_true rfl, Nat.le_of_ble_eq_true rfl⟩ (Nat.le_of_ble_eq_true rfl) ⟨Nat.le_of_ble_eq_true rfl, Nat.le_of_ble_eq_true rfl⟩ dX11_isWord_30 (fun H locs hw => ?_)
    refine g_icmp_ge (tgt := 67) fx dX11_isWord_33 (by decide) hok (fun hok => ?_) (fun hok => ?_)
    · exact hx0 x2  _ _ _  hw (lv_sub hl [2] rfl) (gOk_some hok)
    · refine lv_aload_n fx.1 fx.2.1 dX11_isWord_36 rfl (lv_at hl 0 rfl) ?_
      refine g_getr fx hw h0 lf_RX11_29 rfl dX11_isWord_37 hok (fun a1 h_a1 hok => ?_)
      refine lv_aload_n fx.1 fx.2.1 dX11_isWord_40 rfl (lv_at hl 0 rfl) ?_
      refine g_geti fx hw h0 lf_RX11_93 rfl dX11_isWord_41 ?_
      refine lv_iload_n fx.1 fx.2.1 dX11_isWord_44 rfl (lv_at hl 3 rfl) ?_
      refine lv_iadd fx.1 fx.2.1 dX11_isWord_45 ?_
      refine g_bald fx hw h_a1 dX11_isWord_46 hok (fun hok => ?_)
      refine lv_aload_n fx.1 fx.2.1 dX11_isWord_47 rfl (lv_at hl 1 rfl) ?_
      refine lv_iload_n fx.1 fx.2.1 dX11_isWord_48 rfl (lv_at hl 3 rfl) ?_
      obtain ⟨hz, hok⟩ := gOk_chk hok
      refine g_callT0 (As := [.int x3]) fx hw (c_charAt l X τ hS h_w1 hz G) lv_RX11_104 ⟨rfl, rfl⟩ h_w1.1 rfl hl.1 rfl ⟨Nat.le_of_ble_eq_true rfl, Nat.le_of_ble_eq_true rfl⟩ (Nat.le_of_ble_eq_true rfl) ⟨Nat.le_of_ble_eq_true rfl, Nat.le_of_ble_eq_true rfl⟩ dX11_isWord_49 (fun H locs hw => ?_)
      refine g_icmp_ne (tgt := 59) fx dX11_isWord_52 (by decide) hok (fun hok => ?_) (fun hok => ?_)
      · refine lv_iconst (v := 1) fx.1 fx.2.1 dX11_isWord_55 (by decide) ?_
        refine lv_goto (tgt := 60) fx.1 fx.2.1 dX11_isWord_56 (by decide) ?_
        refine lv_istore_n (lv' := [(2, .int (1 : Int32)), (0, .ref x0), (1, .ref w1), (3, .int x3)]) fx.1 fx.2.1 dX11_isWord_60 rfl hl (by decide) rfl (fun ls hl => ?_)
        obtain ⟨v2, e_v2, hok⟩ := gOk_let hok
        refine lv_iinc (v := v2) (lv' := [(3, .int v2), (2, .int (1 : Int32)), (0, .ref x0), (1, .ref w1)]) fx.1 fx.2.1 dX11_isWord_61 hl (k := 3) rfl (by rw [e_v2]; rfl) (by decide) rfl (fun ls hl => ?_)
        refine lv_goto (tgt := 24) fx.1 fx.2.1 dX11_isWord_64 (by decide) ?_
        exact hc (1 : Int32) v2  _ _ _  hw (lv_sub hl [2, 3, 1, 0] rfl) (gOk_some hok)
      · refine lv_iconst (v := 0) fx.1 fx.2.1 dX11_isWord_59 (by decide) ?_
        refine lv_istore_n (lv' := [(2, .int (0 : Int32)), (0, .ref x0), (1, .ref w1), (3, .int x3)]) fx.1 fx.2.1 dX11_isWord_60 rfl hl (by decide) rfl (fun ls hl => ?_)
        obtain ⟨v3, e_v3, hok⟩ := gOk_let hok
        refine lv_iinc (v := v3) (lv' := [(3, .int v3), (2, .int (0 : Int32)), (0, .ref x0), (1, .ref w1)]) fx.1 fx.2.1 dX11_isWord_61 hl (k := 3) rfl (by rw [e_v3]; rfl) (by decide) rfl (fun ls hl => ?_)
        refine lv_goto (tgt := 24) fx.1 fx.2.1 dX11_isWord_64 (by decide) ?_
        exact hc (0 : Int32) v3  _ _ _  hw (lv_sub hl [2, 3, 1, 0] rfl) (gOk_some hok)
theorem w_l_X11_isWord_24 {X : gX} {τ : gτ} {p : Program} {l : Launch} {e : Env} {s : State} {m : MethodId} {args : Array Value} {below : List Frame} {meth : Method} {c : Code} (fx : gFx X p s m args meth c cX11_isWord 4 RX11) (hS : gS0 l X) (n : Nat) (x0 : Nat) (x1 : List Int32) (h0 : gK τ x0 11) {w1 : Nat} (h_w1 : gStr X w1 x1) (G : gG) {Q : State → Prop} {K : ((Int32)) → Prop} (hx0 : ∀ (y2 : Int32) (H : Heap) (locs : List Loc) (ls : Array Slot), gHw X τ G H locs → lv_has ls 4 [(2, .int y2)] → K y2 → W p l e rm_X11_isWord s m args below meth c H locs 0 0 Q (F0 m 67 ls [])) : ∀ (k : Nat) (x2 : Int32) (x3 : Int32) (H : Heap) (locs : List Loc) (ls : Array Slot), gHw X τ G H locs → lv_has ls 4 [(0, .ref x0), (1, .ref w1), (2, .int x2), (3, .int x3)] → gOk (gIter (fun (q : Int32 × Int32) => b_X11_isWord_24 τ n x0 x1 q.1 q.2 G) k (x2, x3)) K → W p l e rm_X11_isWord s m args below meth c H locs 0 0 Q (F0 m 24 ls []) := by
  intro k
  induction k with
  | zero =>
    intro x2 x3  H locs ls hw hl hok
    exact gOk_iter0 hok
  | succ k hc =>
    intro x2 x3  H locs ls hw hl hok
    exact w_b_X11_isWord_24 fx hS n x0 x1 x2 x3 h0 h_w1 hw hl (gOk_iter hok) hc hx0
set_option maxHeartbeats 4000000 in
set_option maxRecDepth 100000 in
theorem w_X11_isWord_21 {X : gX} {τ : gτ} {p : Program} {l : Launch} {e : Env} {s : State} {m : MethodId} {args : Array Value} {below : List Frame} {meth : Method} {c : Code} (fx : gFx X p s m args meth c cX11_isWord 4 RX11) (hS : gS0 l X) (n : Nat) (x0 : Nat) (x1 : List Int32) (s0 : Int32) (h0 : gK τ x0 11) {w1 : Nat} (h_w1 : gStr X w1 x1)  (hr : meth.sig.returnType = (some .boolean)) {r : Int32}  {G : gG} {H : Heap} {locs : List Loc} {ls : Array Slot} (hw : gHw X τ G H locs) (hl : lv_has ls 4 [(0, .ref x0), (1, .ref w1)]) (hok : gOk (k_X11_isWord_21 τ n x0 x1 s0 G) (fun q => q = r))  : W p l e rm_X11_isWord s m args below meth c H locs 0 0 (MQ below (gQ X τ (some (.int r)) G) args s 0 0 (gFree X)) (F0 m 21 ls [.int s0]) := by
  unfold k_X11_isWord_21 at hok
  refine lv_istore_n (lv' := [(2, .int s0), (0, .ref x0), (1, .ref w1)]) fx.1 fx.2.1 dX11_isWord_21 rfl hl (by decide) rfl (fun ls hl => ?_)
  refine lv_iconst (v := 0) fx.1 fx.2.1 dX11_isWord_22 (by decide) ?_
  refine lv_istore_n (lv' := [(3, .int (0 : Int32)), (2, .int s0), (0, .ref x0), (1, .ref w1)]) fx.1 fx.2.1 dX11_isWord_23 rfl hl (by decide) rfl (fun ls hl => ?_)
  refine w_l_X11_isWord_24 fx hS n x0 x1 h0 h_w1 G ?_ n s0 (0 : Int32)  _ _ _  hw (lv_sub hl [2, 3, 1, 0] rfl) (gOk_bindK hok)
  intro z4  H locs ls hw hl hok
  have hok : gOk (ρ := Int32) (gchk (z4 = 0 ∨ z4 = 1) <| some (z4)) _ := hok
  refine lv_iload_n fx.1 fx.2.1 dX11_isWord_67 rfl (lv_at hl 0 rfl) ?_
  obtain ⟨hz, hok⟩ := gOk_chk hok
  cases gOk_some hok
  exact g_zret fx hw hr hz dX11_isWord_68
set_option maxHeartbeats 4000000 in
set_option maxRecDepth 100000 in
theorem c_X11_isWord (l : Launch) (X : gX) (τ : gτ) (n : Nat) (hS : gS0 l X) (x0 : Nat) (x1 : List Int32) (G : gG) (h0 : gK τ x0 11) {w1 : Nat} (h_w1 : gStr X w1 x1) {r : Int32}  (h : f_X11_isWord τ n x0 x1 G = some r) : gM l X τ yX11_isWord cX11_isWord 4 (some .boolean) rm_X11_isWord [.ref x0, .ref w1] G (some (.int r)) G := by
  refine g_body (by decide +kernel) (Nat.le_of_ble_eq_true rfl) ?_
  intro p e s m args below meth c ls fx hr hw hl
  have fx : gFx X p s m args meth c cX11_isWord 4 RX11 := fx
  have hl : lv_has ls 4 [(0, .ref x0), (1, .ref w1)] := hl
  have hok : gOk (f_X11_isWord τ n x0 x1 G) (fun q => q = r) := ⟨_, h, rfl⟩
  unfold f_X11_isWord at hok
  show W p l e rm_X11_isWord s m args below meth c s.heap [] 0 0 (MQ below (gQ X τ (some (.int r)) G) args s 0 0 (gFree X)) _
  refine lv_aload_n fx.1 fx.2.1 dX11_isWord_0 rfl (lv_at hl 0 rfl) ?_
  refine g_geti fx hw h0 lf_RX11_83 rfl dX11_isWord_1 ?_
  refine lv_aload_n fx.1 fx.2.1 dX11_isWord_4 rfl (lv_at hl 0 rfl) ?_
  refine g_geti fx hw h0 lf_RX11_93 rfl dX11_isWord_5 ?_
  refine lv_isub fx.1 fx.2.1 dX11_isWord_8 ?_
  refine lv_aload_n fx.1 fx.2.1 dX11_isWord_9 rfl (lv_at hl 1 rfl) ?_
  refine g_callT0 fx hw (c_strLen l X τ hS h_w1 G) lv_RX11_99 ⟨rfl, rfl⟩ h_w1.1 rfl hl.1 rfl ⟨Nat.le_of_ble_eq_true rfl, Nat.le_of_ble_eq_true rfl⟩ (Nat.le_of_ble_eq_true rfl) ⟨Nat.le_of_ble_eq_true rfl, Nat.le_of_ble_eq_true rfl⟩ dX11_isWord_10 (fun H locs hw => ?_)
  refine g_icmp_ne (tgt := 20) fx dX11_isWord_13 (by decide) hok (fun hok => ?_) (fun hok => ?_)
  · refine lv_iconst (v := 1) fx.1 fx.2.1 dX11_isWord_16 (by decide) ?_
    refine lv_goto (tgt := 21) fx.1 fx.2.1 dX11_isWord_17 (by decide) ?_
    exact w_X11_isWord_21 fx hS n x0 x1 (1 : Int32) h0 h_w1  hr hw (lv_sub hl [0, 1] rfl) hok
  · refine lv_iconst (v := 0) fx.1 fx.2.1 dX11_isWord_20 (by decide) ?_
    exact w_X11_isWord_21 fx hS n x0 x1 (0 : Int32) h0 h_w1  hr hw (lv_sub hl [0, 1] rfl) hok
theorem dX11_passes_0 : decode cX11_passes 0 = .ok (.aload_n 0, 1) := by decide +kernel
theorem dX11_passes_1 : decode cX11_passes 1 = .ok (.invokevirtual 108, 3) := by decide +kernel
theorem dX11_passes_4 : decode cX11_passes 4 = .ok (.aload_n 0, 1) := by decide +kernel
theorem dX11_passes_5 : decode cX11_passes 5 = .ok (.aload_n 1, 1) := by decide +kernel
theorem dX11_passes_6 : decode cX11_passes 6 = .ok (.invokevirtual 111, 3) := by decide +kernel
theorem dX11_passes_9 : decode cX11_passes 9 = .ok (.ifCond .eq 5, 3) := by decide +kernel
theorem dX11_passes_12 : decode cX11_passes 12 = .ok (.iconst 1, 1) := by decide +kernel
theorem dX11_passes_13 : decode cX11_passes 13 = .ok (.ireturn, 1) := by decide +kernel
theorem dX11_passes_14 : decode cX11_passes 14 = .ok (.aload_n 0, 1) := by decide +kernel
theorem dX11_passes_15 : decode cX11_passes 15 = .ok (.aload_n 0, 1) := by decide +kernel
theorem dX11_passes_16 : decode cX11_passes 16 = .ok (.getfield 93, 3) := by decide +kernel
theorem dX11_passes_19 : decode cX11_passes 19 = .ok (.putfield 83, 3) := by decide +kernel
theorem dX11_passes_22 : decode cX11_passes 22 = .ok (.iconst 0, 1) := by decide +kernel
theorem dX11_passes_23 : decode cX11_passes 23 = .ok (.ireturn, 1) := by decide +kernel
theorem lv_RX11_108 : gLv RX11 108 RX11 yX11_letters cX11_letters 1 none 0 := gLv_of (wA_t (wt7 (List.mem_of_getElem? (i := 82) (by decide +kernel))) (by decide +kernel)) (wA_t (wt7 (List.mem_of_getElem? (i := 84) (by decide +kernel))) (by decide +kernel)) (wA_of (List.mem_append_left _ (List.mem_map.mpr ⟨(⟨"YearRopeModel", "letters", "()V"⟩, 20), wp3 (List.mem_of_getElem? (i := 15) (by decide +kernel)), rfl⟩)) (by decide +kernel)) (wA_t (wt1 (List.mem_of_getElem? (i := 12) (by decide +kernel))) (by decide +kernel)) (wA_t (wt7 (List.mem_of_getElem? (i := 85) (by decide +kernel))) (by decide +kernel)) ⟨rfl, by decide +kernel, by decide +kernel, by decide +kernel⟩
theorem lv_RX11_111 : gLv RX11 111 RX11 yX11_isWord cX11_isWord 4 (some .boolean) 1 := gLv_of (wA_t (wt7 (List.mem_of_getElem? (i := 91) (by decide +kernel))) (by decide +kernel)) (wA_t (wt7 (List.mem_of_getElem? (i := 93) (by decide +kernel))) (by decide +kernel)) (wA_of (List.mem_append_left _ (List.mem_map.mpr ⟨(⟨"YearRopeModel", "isWord", "(Ljava/lang/String;)Z"⟩, 20), wp4 (List.mem_of_getElem? (i := 1) (by decide +kernel)), rfl⟩)) (by decide +kernel)) (wA_t (wt1 (List.mem_of_getElem? (i := 12) (by decide +kernel))) (by decide +kernel)) (wA_t (wt7 (List.mem_of_getElem? (i := 94) (by decide +kernel))) (by decide +kernel)) ⟨rfl, by decide +kernel, by decide +kernel, by decide +kernel⟩
def rm_X11_passes : Room := { frames := 5, cells := 0, slots := 0, locals := 183 }
def f_X11_passes (τ : gτ) (n : Nat) (x0 : Nat) (x1 : List Int32) (G : gG) : Option (Int32 × gG) :=
  (f_X11_letters τ n x0 G).bind fun G1 =>
  (f_X11_isWord τ n x0 x1 G1).bind fun v2 =>
  if v2 = 0 then (gLet (gsi G1 11 10 x0 (gi G1 11 12 x0)) fun G3 =>
  some (0, G3))
  else (some (1, G1))
set_option maxHeartbeats 4000000 in
set_option maxRecDepth 100000 in
theorem c_X11_passes (l : Launch) (X : gX) (τ : gτ) (n : Nat) (hS : gS0 l X) (x0 : Nat) (x1 : List Int32) (G : gG) (h0 : gK τ x0 11) {w1 : Nat} (h_w1 : gStr X w1 x1) {r : Int32} {G' : gG} (h : f_X11_passes τ n x0 x1 G = some (r, G')) : gM l X τ yX11_passes cX11_passes 2 (some .boolean) rm_X11_passes [.ref x0, .ref w1] G (some (.int r)) G' := by
  refine g_body (by decide +kernel) (Nat.le_of_ble_eq_true rfl) ?_
  intro p e s m args below meth c ls fx hr hw hl
  have fx : gFx X p s m args meth c cX11_passes 2 RX11 := fx
  have hl : lv_has ls 2 [(0, .ref x0), (1, .ref w1)] := hl
  have hok : gOk (f_X11_passes τ n x0 x1 G) (fun q => q = (r, G')) := ⟨_, h, rfl⟩
  unfold f_X11_passes at hok
  show W p l e rm_X11_passes s m args below meth c s.heap [] 0 0 (MQ below (gQ X τ (some (.int r)) G') args s 0 0 (gFree X)) _
  refine lv_aload_n fx.1 fx.2.1 dX11_passes_0 rfl (lv_at hl 0 rfl) ?_
  obtain ⟨G1, hf, hok⟩ := gOk_bind hok
  refine g_callV0 (κ := 11) fx hw (c_X11_letters l X τ n x0 G h0 hf) lv_RX11_108 ⟨rfl, rfl⟩ rfl rfl h0 rfl hl.1 rfl ⟨Nat.le_of_ble_eq_true rfl, Nat.le_of_ble_eq_true rfl⟩ (Nat.le_of_ble_eq_true rfl) ⟨Nat.le_of_ble_eq_true rfl, Nat.le_of_ble_eq_true rfl⟩ dX11_passes_1 (fun H locs hw => ?_)
  refine lv_aload_n fx.1 fx.2.1 dX11_passes_4 rfl (lv_at hl 0 rfl) ?_
  refine lv_aload_n fx.1 fx.2.1 dX11_passes_5 rfl (lv_at hl 1 rfl) ?_
  obtain ⟨v2, hf, hok⟩ := gOk_bind hok
  refine g_callV0 (κ := 11) fx hw (c_X11_isWord l X τ n hS x0 x1 G1 h0 h_w1 hf) lv_RX11_111 ⟨rfl, rfl⟩ rfl rfl h0 rfl hl.1 rfl ⟨Nat.le_of_ble_eq_true rfl, Nat.le_of_ble_eq_true rfl⟩ (Nat.le_of_ble_eq_true rfl) ⟨Nat.le_of_ble_eq_true rfl, Nat.le_of_ble_eq_true rfl⟩ dX11_passes_6 (fun H locs hw => ?_)
  refine g_if_eq (tgt := 14) fx dX11_passes_9 (by decide) hok (fun hok => ?_) (fun hok => ?_)
  · refine lv_aload_n fx.1 fx.2.1 dX11_passes_14 rfl (lv_at hl 0 rfl) ?_
    refine lv_aload_n fx.1 fx.2.1 dX11_passes_15 rfl (lv_at hl 0 rfl) ?_
    refine g_geti fx hw h0 lf_RX11_93 rfl dX11_passes_16 ?_
    refine g_puti fx hw h0 lp_RX11_83 rfl rfl dX11_passes_19 hok (fun G3 H locs hw hok => ?_)
    refine lv_iconst (v := 0) fx.1 fx.2.1 dX11_passes_22 (by decide) ?_
    cases gOk_some hok
    exact g_zret fx hw hr (by decide) dX11_passes_23
  · refine lv_iconst (v := 1) fx.1 fx.2.1 dX11_passes_12 (by decide) ?_
    cases gOk_some hok
    exact g_zret fx hw hr (by decide) dX11_passes_13
theorem dX11_sign_0 : decode cX11_sign 0 = .ok (.aload_n 0, 1) := by decide +kernel
theorem dX11_sign_1 : decode cX11_sign 1 = .ok (.invokevirtual 96, 3) := by decide +kernel
theorem dX11_sign_4 : decode cX11_sign 4 = .ok (.aload_n 0, 1) := by decide +kernel
theorem dX11_sign_5 : decode cX11_sign 5 = .ok (.iload_n 1, 1) := by decide +kernel
theorem dX11_sign_6 : decode cX11_sign 6 = .ok (.iload_n 1, 1) := by decide +kernel
theorem dX11_sign_7 : decode cX11_sign 7 = .ok (.invokevirtual 89, 3) := by decide +kernel
theorem dX11_sign_10 : decode cX11_sign 10 = .ok (.ifCond .ne 5, 3) := by decide +kernel
theorem dX11_sign_13 : decode cX11_sign 13 = .ok (.iconst 0, 1) := by decide +kernel
theorem dX11_sign_14 : decode cX11_sign 14 = .ok (.ireturn, 1) := by decide +kernel
theorem dX11_sign_15 : decode cX11_sign 15 = .ok (.aload_n 0, 1) := by decide +kernel
theorem dX11_sign_16 : decode cX11_sign 16 = .ok (.dup, 1) := by decide +kernel
theorem dX11_sign_17 : decode cX11_sign 17 = .ok (.getfield 83, 3) := by decide +kernel
theorem dX11_sign_20 : decode cX11_sign 20 = .ok (.iconst 1, 1) := by decide +kernel
theorem dX11_sign_21 : decode cX11_sign 21 = .ok (.iadd, 1) := by decide +kernel
theorem dX11_sign_22 : decode cX11_sign 22 = .ok (.putfield 83, 3) := by decide +kernel
theorem dX11_sign_25 : decode cX11_sign 25 = .ok (.iconst 1, 1) := by decide +kernel
theorem dX11_sign_26 : decode cX11_sign 26 = .ok (.ireturn, 1) := by decide +kernel
def rm_X11_sign : Room := { frames := 2, cells := 0, slots := 0, locals := 42 }
def f_X11_sign (τ : gτ) (n : Nat) (x0 : Nat) (x1 : Int32) (G : gG) : Option (Int32 × gG) :=
  (f_X11_blanks τ n x0 G).bind fun G1 =>
  (f_X11_isAt τ x0 x1 x1 G1).bind fun v2 =>
  if v2 = 0 then (some (0, G1))
  else (gLet (gsi G1 11 10 x0 ((gi G1 11 10 x0) + (1 : Int32))) fun G3 =>
  some (1, G3))
set_option maxHeartbeats 4000000 in
set_option maxRecDepth 100000 in
theorem c_X11_sign (l : Launch) (X : gX) (τ : gτ) (n : Nat) (x0 : Nat) (x1 : Int32) (G : gG) (h0 : gK τ x0 11) {r : Int32} {G' : gG} (h : f_X11_sign τ n x0 x1 G = some (r, G')) : gM l X τ yX11_sign cX11_sign 2 (some .boolean) rm_X11_sign [.ref x0, .int x1] G (some (.int r)) G' := by
  refine g_body (by decide +kernel) (Nat.le_of_ble_eq_true rfl) ?_
  intro p e s m args below meth c ls fx hr hw hl
  have fx : gFx X p s m args meth c cX11_sign 2 RX11 := fx
  have hl : lv_has ls 2 [(0, .ref x0), (1, .int x1)] := hl
  have hok : gOk (f_X11_sign τ n x0 x1 G) (fun q => q = (r, G')) := ⟨_, h, rfl⟩
  unfold f_X11_sign at hok
  show W p l e rm_X11_sign s m args below meth c s.heap [] 0 0 (MQ below (gQ X τ (some (.int r)) G') args s 0 0 (gFree X)) _
  refine lv_aload_n fx.1 fx.2.1 dX11_sign_0 rfl (lv_at hl 0 rfl) ?_
  obtain ⟨G1, hf, hok⟩ := gOk_bind hok
  refine g_callV0 (κ := 11) fx hw (c_X11_blanks l X τ n x0 G h0 hf) lv_RX11_96 ⟨rfl, rfl⟩ rfl rfl h0 rfl hl.1 rfl ⟨Nat.le_of_ble_eq_true rfl, Nat.le_of_ble_eq_true rfl⟩ (Nat.le_of_ble_eq_true rfl) ⟨Nat.le_of_ble_eq_true rfl, Nat.le_of_ble_eq_true rfl⟩ dX11_sign_1 (fun H locs hw => ?_)
  refine lv_aload_n fx.1 fx.2.1 dX11_sign_4 rfl (lv_at hl 0 rfl) ?_
  refine lv_iload_n fx.1 fx.2.1 dX11_sign_5 rfl (lv_at hl 1 rfl) ?_
  refine lv_iload_n fx.1 fx.2.1 dX11_sign_6 rfl (lv_at hl 1 rfl) ?_
  obtain ⟨v2, hf, hok⟩ := gOk_bind hok
  refine g_callV0 (κ := 11) fx hw (c_X11_isAt l X τ x0 x1 x1 G1 h0 hf) lv_RX11_89 ⟨rfl, rfl⟩ rfl rfl h0 rfl hl.1 rfl ⟨Nat.le_of_ble_eq_true rfl, Nat.le_of_ble_eq_true rfl⟩ (Nat.le_of_ble_eq_true rfl) ⟨Nat.le_of_ble_eq_true rfl, Nat.le_of_ble_eq_true rfl⟩ dX11_sign_7 (fun H locs hw => ?_)
  refine g_if_ne (tgt := 15) fx dX11_sign_10 (by decide) hok (fun hok => ?_) (fun hok => ?_)
  · refine lv_iconst (v := 0) fx.1 fx.2.1 dX11_sign_13 (by decide) ?_
    cases gOk_some hok
    exact g_zret fx hw hr (by decide) dX11_sign_14
  · refine lv_aload_n fx.1 fx.2.1 dX11_sign_15 rfl (lv_at hl 0 rfl) ?_
    refine lv_dup fx.1 fx.2.1 dX11_sign_16 rfl ?_
    refine g_geti fx hw h0 lf_RX11_83 rfl dX11_sign_17 ?_
    refine lv_iconst (v := 1) fx.1 fx.2.1 dX11_sign_20 (by decide) ?_
    refine lv_iadd fx.1 fx.2.1 dX11_sign_21 ?_
    refine g_puti fx hw h0 lp_RX11_83 rfl rfl dX11_sign_22 hok (fun G3 H locs hw hok => ?_)
    refine lv_iconst (v := 1) fx.1 fx.2.1 dX11_sign_25 (by decide) ?_
    cases gOk_some hok
    exact g_zret fx hw hr (by decide) dX11_sign_26
theorem dX11_number_0 : decode cX11_number 0 = .ok (.aload_n 0, 1) := by decide +kernel
theorem dX11_number_1 : decode cX11_number 1 = .ok (.invokevirtual 96, 3) := by decide +kernel
theorem dX11_number_4 : decode cX11_number 4 = .ok (.iconst 0, 1) := by decide +kernel
theorem dX11_number_5 : decode cX11_number 5 = .ok (.istore_n 3, 1) := by decide +kernel
theorem dX11_number_6 : decode cX11_number 6 = .ok (.aload_n 0, 1) := by decide +kernel
theorem dX11_number_7 : decode cX11_number 7 = .ok (.bipush 48, 2) := by decide +kernel
theorem dX11_number_9 : decode cX11_number 9 = .ok (.bipush 57, 2) := by decide +kernel
theorem dX11_number_11 : decode cX11_number 11 = .ok (.invokevirtual 89, 3) := by decide +kernel
theorem dX11_number_14 : decode cX11_number 14 = .ok (.ifCond .eq 51, 3) := by decide +kernel
theorem dX11_number_17 : decode cX11_number 17 = .ok (.aload_n 0, 1) := by decide +kernel
theorem dX11_number_18 : decode cX11_number 18 = .ok (.getfield 83, 3) := by decide +kernel
theorem dX11_number_21 : decode cX11_number 21 = .ok (.aload_n 0, 1) := by decide +kernel
theorem dX11_number_22 : decode cX11_number 22 = .ok (.getfield 93, 3) := by decide +kernel
theorem dX11_number_25 : decode cX11_number 25 = .ok (.isub, 1) := by decide +kernel
theorem dX11_number_26 : decode cX11_number 26 = .ok (.iconst 3, 1) := by decide +kernel
theorem dX11_number_27 : decode cX11_number 27 = .ok (.if_icmp .ge 23, 3) := by decide +kernel
theorem dX11_number_30 : decode cX11_number 30 = .ok (.bipush 10, 2) := by decide +kernel
theorem dX11_number_32 : decode cX11_number 32 = .ok (.iload_n 3, 1) := by decide +kernel
theorem dX11_number_33 : decode cX11_number 33 = .ok (.imul, 1) := by decide +kernel
theorem dX11_number_34 : decode cX11_number 34 = .ok (.aload_n 0, 1) := by decide +kernel
theorem dX11_number_35 : decode cX11_number 35 = .ok (.getfield 29, 3) := by decide +kernel
theorem dX11_number_38 : decode cX11_number 38 = .ok (.aload_n 0, 1) := by decide +kernel
theorem dX11_number_39 : decode cX11_number 39 = .ok (.getfield 83, 3) := by decide +kernel
theorem dX11_number_42 : decode cX11_number 42 = .ok (.baload, 1) := by decide +kernel
theorem dX11_number_43 : decode cX11_number 43 = .ok (.iadd, 1) := by decide +kernel
theorem dX11_number_44 : decode cX11_number 44 = .ok (.bipush 48, 2) := by decide +kernel
theorem dX11_number_46 : decode cX11_number 46 = .ok (.isub, 1) := by decide +kernel
theorem dX11_number_47 : decode cX11_number 47 = .ok (.goto 4, 3) := by decide +kernel
theorem dX11_number_50 : decode cX11_number 50 = .ok (.iload_n 3, 1) := by decide +kernel
theorem dX11_number_51 : decode cX11_number 51 = .ok (.istore_n 3, 1) := by decide +kernel
theorem dX11_number_52 : decode cX11_number 52 = .ok (.aload_n 0, 1) := by decide +kernel
theorem dX11_number_53 : decode cX11_number 53 = .ok (.dup, 1) := by decide +kernel
theorem dX11_number_54 : decode cX11_number 54 = .ok (.getfield 83, 3) := by decide +kernel
theorem dX11_number_57 : decode cX11_number 57 = .ok (.iconst 1, 1) := by decide +kernel
theorem dX11_number_58 : decode cX11_number 58 = .ok (.iadd, 1) := by decide +kernel
theorem dX11_number_59 : decode cX11_number 59 = .ok (.putfield 83, 3) := by decide +kernel
theorem dX11_number_62 : decode cX11_number 62 = .ok (.goto (-56), 3) := by decide +kernel
theorem dX11_number_65 : decode cX11_number 65 = .ok (.aload_n 0, 1) := by decide +kernel
theorem dX11_number_66 : decode cX11_number 66 = .ok (.getfield 83, 3) := by decide +kernel
theorem dX11_number_69 : decode cX11_number 69 = .ok (.aload_n 0, 1) := by decide +kernel
theorem dX11_number_70 : decode cX11_number 70 = .ok (.getfield 93, 3) := by decide +kernel
theorem dX11_number_73 : decode cX11_number 73 = .ok (.if_icmp .eq 26, 3) := by decide +kernel
theorem dX11_number_76 : decode cX11_number 76 = .ok (.aload_n 0, 1) := by decide +kernel
theorem dX11_number_77 : decode cX11_number 77 = .ok (.getfield 83, 3) := by decide +kernel
theorem dX11_number_80 : decode cX11_number 80 = .ok (.aload_n 0, 1) := by decide +kernel
theorem dX11_number_81 : decode cX11_number 81 = .ok (.getfield 93, 3) := by decide +kernel
theorem dX11_number_84 : decode cX11_number 84 = .ok (.isub, 1) := by decide +kernel
theorem dX11_number_85 : decode cX11_number 85 = .ok (.iconst 3, 1) := by decide +kernel
theorem dX11_number_86 : decode cX11_number 86 = .ok (.if_icmp .gt 13, 3) := by decide +kernel
theorem dX11_number_89 : decode cX11_number 89 = .ok (.iload_n 3, 1) := by decide +kernel
theorem dX11_number_90 : decode cX11_number 90 = .ok (.iload_n 1, 1) := by decide +kernel
theorem dX11_number_91 : decode cX11_number 91 = .ok (.if_icmp .lt 8, 3) := by decide +kernel
theorem dX11_number_94 : decode cX11_number 94 = .ok (.iload_n 3, 1) := by decide +kernel
theorem dX11_number_95 : decode cX11_number 95 = .ok (.iload_n 2, 1) := by decide +kernel
theorem dX11_number_96 : decode cX11_number 96 = .ok (.if_icmp .le 7, 3) := by decide +kernel
theorem dX11_number_99 : decode cX11_number 99 = .ok (.iconst (-1), 1) := by decide +kernel
theorem dX11_number_100 : decode cX11_number 100 = .ok (.goto 4, 3) := by decide +kernel
theorem dX11_number_103 : decode cX11_number 103 = .ok (.iload_n 3, 1) := by decide +kernel
theorem dX11_number_104 : decode cX11_number 104 = .ok (.ireturn, 1) := by decide +kernel
def rm_X11_number : Room := { frames := 2, cells := 0, slots := 0, locals := 42 }
def k_X11_number_51 (τ : gτ) (n : Nat) (x0 : Nat) (x1 : Int32) (x2 : Int32) (s0 : Int32) (G : gG) : Option ((Int32 × gG) ⊕ ((Int32 × gG))) :=
  gLet (gsi G 11 10 x0 ((gi G 11 10 x0) + (1 : Int32))) fun G3 =>
  some (.inl (s0, G3))
def b_X11_number_6 (τ : gτ) (n : Nat) (x0 : Nat) (x1 : Int32) (x2 : Int32) (x3 : Int32) (G : gG) : Option ((Int32 × gG) ⊕ ((Int32 × gG))) :=
  (f_X11_isAt τ x0 (48 : Int32) (57 : Int32) G).bind fun v2 =>
  if v2 = 0 then (some (.inr (x3, G)))
  else (if (3 : Int32) ≤ ((gi G 11 10 x0) - (gi G 11 12 x0)) then (k_X11_number_51 τ n x0 x1 x2 x3 G)
  else ((gr G 11 8 x0).bind fun a4 =>
  gchk (gIn (gi G 11 10 x0) (gn τ a4)) <|
  k_X11_number_51 τ n x0 x1 x2 ((((10 : Int32) * x3) + (ge G a4 (Int32.toNatClampNeg (gi G 11 10 x0)))) - (48 : Int32)) G))
def l_X11_number_6 (τ : gτ) (n : Nat) (x0 : Nat) (x1 : Int32) (x2 : Int32) (x3 : Int32) (G : gG) : Option ((Int32 × gG)) :=
  gIter (fun (q : Int32 × gG) => b_X11_number_6 τ n x0 x1 x2 q.1 q.2) n (x3, G)
def k_X11_number_65 (τ : gτ) (n : Nat) (x0 : Nat) (x1 : Int32) (x2 : Int32) (x3 : Int32)  (G : gG) : Option (Int32 × gG) :=
  if (gi G 11 10 x0) = (gi G 11 12 x0) then (some ((-1), G))
  else (if (3 : Int32) < ((gi G 11 10 x0) - (gi G 11 12 x0)) then (some ((-1), G))
  else (if x3 < x1 then (some ((-1), G))
  else (if x3 ≤ x2 then (some (x3, G))
  else (some ((-1), G)))))
def f_X11_number (τ : gτ) (n : Nat) (x0 : Nat) (x1 : Int32) (x2 : Int32) (G : gG) : Option (Int32 × gG) :=
  (f_X11_blanks τ n x0 G).bind fun G1 =>
  (l_X11_number_6 τ n x0 x1 x2 (0 : Int32) G1).bind fun q => gLet q.1 fun z5 => gLet q.2 fun G6 => 
  k_X11_number_65 τ n x0 x1 x2 z5  G6
set_option maxHeartbeats 4000000 in
set_option maxRecDepth 100000 in
theorem w_X11_number_51 {X : gX} {τ : gτ} {p : Program} {l : Launch} {e : Env} {s : State} {m : MethodId} {args : Array Value} {below : List Frame} {meth : Method} {c : Code} (fx : gFx X p s m args meth c cX11_number 4 RX11) (n : Nat) (x0 : Nat) (x1 : Int32) (x2 : Int32) (s0 : Int32) (h0 : gK τ x0 11)  {Q : State → Prop} {K : ((Int32 × gG) ⊕ ((Int32 × gG))) → Prop} {G : gG} {H : Heap} {locs : List Loc} {ls : Array Slot} (hw : gHw X τ G H locs) (hl : lv_has ls 4 [(0, .ref x0), (1, .int x1), (2, .int x2)]) (hok : gOk (k_X11_number_51 τ n x0 x1 x2 s0 G) K) (hc : ∀ (y3 : Int32) (G : gG) (H : Heap) (locs : List Loc) (ls : Array Slot), gHw X τ G H locs → lv_has ls 4 [(0, .ref x0), (1, .int x1), (2, .int x2), (3, .int y3)] → K (.inl (y3, G)) → W p l e rm_X11_number s m args below meth c H locs 0 0 Q (F0 m 6 ls [])) (hx0 : ∀ (y3 : Int32) (G : gG) (H : Heap) (locs : List Loc) (ls : Array Slot), gHw X τ G H locs → lv_has ls 4 [(0, .ref x0), (1, .int x1), (2, .int x2), (3, .int y3)] → K (.inr (y3, G)) → W p l e rm_X11_number s m args below meth c H locs 0 0 Q (F0 m 65 ls [])) : W p l e rm_X11_number s m args below meth c H locs 0 0 Q (F0 m 51 ls [.int s0]) := by
  unfold k_X11_number_51 at hok
  refine lv_istore_n (lv' := [(3, .int s0), (0, .ref x0), (1, .int x1), (2, .int x2)]) fx.1 fx.2.1 dX11_number_51 rfl hl (by decide) rfl (fun ls hl => ?_)
  refine lv_aload_n fx.1 fx.2.1 dX11_number_52 rfl (lv_at hl 1 rfl) ?_
  refine lv_dup fx.1 fx.2.1 dX11_number_53 rfl ?_
  refine g_geti fx hw h0 lf_RX11_83 rfl dX11_number_54 ?_
  refine lv_iconst (v := 1) fx.1 fx.2.1 dX11_number_57 (by decide) ?_
  refine lv_iadd fx.1 fx.2.1 dX11_number_58 ?_
  refine g_puti fx hw h0 lp_RX11_83 rfl rfl dX11_number_59 hok (fun G3 H locs hw hok => ?_)
  refine lv_goto (tgt := 6) fx.1 fx.2.1 dX11_number_62 (by decide) ?_
  exact hc s0 G3 _ _ _  hw (lv_sub hl [1, 2, 3, 0] rfl) (gOk_some hok)
set_option maxHeartbeats 4000000 in
set_option maxRecDepth 100000 in
theorem w_b_X11_number_6 {X : gX} {τ : gτ} {p : Program} {l : Launch} {e : Env} {s : State} {m : MethodId} {args : Array Value} {below : List Frame} {meth : Method} {c : Code} (fx : gFx X p s m args meth c cX11_number 4 RX11) (n : Nat) (x0 : Nat) (x1 : Int32) (x2 : Int32) (x3 : Int32) (h0 : gK τ x0 11) {Q : State → Prop} {K : ((Int32 × gG) ⊕ ((Int32 × gG))) → Prop} {G : gG} {H : Heap} {locs : List Loc} {ls : Array Slot} (hw : gHw X τ G H locs) (hl : lv_has ls 4 [(0, .ref x0), (1, .int x1), (2, .int x2), (3, .int x3)]) (hok : gOk (b_X11_number_6 τ n x0 x1 x2 x3 G) K) (hc : ∀ (y3 : Int32) (G : gG) (H : Heap) (locs : List Loc) (ls : Array Slot), gHw X τ G H locs → lv_has ls 4 [(0, .ref x0), (1, .int x1), (2, .int x2), (3, .int y3)] → K (.inl (y3, G)) → W p l e rm_X11_number s m args below meth c H locs 0 0 Q (F0 m 6 ls [])) (hx0 : ∀ (y3 : Int32) (G : gG) (H : Heap) (locs : List Loc) (ls : Array Slot), gHw X τ G H locs → lv_has ls 4 [(0, .ref x0), (1, .int x1), (2, .int x2), (3, .int y3)] → K (.inr (y3, G)) → W p l e rm_X11_number s m args below meth c H locs 0 0 Q (F0 m 65 ls [])) : W p l e rm_X11_number s m args below meth c H locs 0 0 Q (F0 m 6 ls []) := by
  unfold b_X11_number_6 at hok
  refine lv_aload_n fx.1 fx.2.1 dX11_number_6 rfl (lv_at hl 0 rfl) ?_
  refine lv_bipush (v := 48) fx.1 fx.2.1 dX11_number_7 (by decide) ?_
  refine lv_bipush (v := 57) fx.1 fx.2.1 dX11_number_9 (by decide) ?_
  obtain ⟨v2, hf, hok⟩ := gOk_bind hok
  refine g_callV0 (κ := 11) fx hw (c_X11_isAt l X τ x0 (48 : Int32) (57 : Int32) G h0 hf) lv_RX11_89 ⟨rfl, rfl⟩ rfl rfl h0 rfl hl.1 rfl ⟨Nat.le_of_ble_eq_true rfl, Nat.le_of_ble_eq_true rfl⟩ (Nat.le_of_ble_eq_true rfl) ⟨Nat.le_of_ble_eq_true rfl, Nat.le_of_ble_eq_true rfl⟩ dX11_number_11 (fun H locs hw => ?_)
  refine g_if_eq (tgt := 65) fx dX11_number_14 (by decide) hok (fun hok => ?_) (fun hok => ?_)
  · exact hx0 x3 G _ _ _  hw (lv_sub hl [0, 1, 2, 3] rfl) (gOk_some hok)
  · refine lv_aload_n fx.1 fx.2.1 dX11_number_17 rfl (lv_at hl 0 rfl) ?_
    refine g_geti fx hw h0 lf_RX11_83 rfl dX11_number_18 ?_
    refine lv_aload_n fx.1 fx.2.1 dX11_number_21 rfl (lv_at hl 0 rfl) ?_
    refine g_geti fx hw h0 lf_RX11_93 rfl dX11_number_22 ?_
    refine lv_isub fx.1 fx.2.1 dX11_number_25 ?_
    refine lv_iconst (v := 3) fx.1 fx.2.1 dX11_number_26 (by decide) ?_
    refine g_icmp_ge (tgt := 50) fx dX11_number_27 (by decide) hok (fun hok => ?_) (fun hok => ?_)
    · refine lv_iload_n fx.1 fx.2.1 dX11_number_50 rfl (lv_at hl 3 rfl) ?_
      exact w_X11_number_51 fx n x0 x1 x2 x3 h0  hw (lv_sub hl [0, 1, 2] rfl) hok hc hx0
    · refine lv_bipush (v := 10) fx.1 fx.2.1 dX11_number_30 (by decide) ?_
      refine lv_iload_n fx.1 fx.2.1 dX11_number_32 rfl (lv_at hl 3 rfl) ?_
      refine lv_imul fx.1 fx.2.1 dX11_number_33 ?_
      refine lv_aload_n fx.1 fx.2.1 dX11_number_34 rfl (lv_at hl 0 rfl) ?_
      refine g_getr fx hw h0 lf_RX11_29 rfl dX11_number_35 hok (fun a4 h_a4 hok => ?_)
      refine lv_aload_n fx.1 fx.2.1 dX11_number_38 rfl (lv_at hl 0 rfl) ?_
      refine g_geti fx hw h0 lf_RX11_83 rfl dX11_number_39 ?_
      refine g_bald fx hw h_a4 dX11_number_42 hok (fun hok => ?_)
      refine lv_iadd fx.1 fx.2.1 dX11_number_43 ?_
      refine lv_bipush (v := 48) fx.1 fx.2.1 dX11_number_44 (by decide) ?_
      refine lv_isub fx.1 fx.2.1 dX11_number_46 ?_
      refine lv_goto (tgt := 51) fx.1 fx.2.1 dX11_number_47 (by decide) ?_
      exact w_X11_number_51 fx n x0 x1 x2 ((((10 : Int32) * x3) + (ge G a4 (Int32.toNatClampNeg (gi G 11 10 x0)))) - (48 : Int32)) h0  hw (lv_sub hl [0, 1, 2] rfl) hok hc hx0
theorem w_l_X11_number_6 {X : gX} {τ : gτ} {p : Program} {l : Launch} {e : Env} {s : State} {m : MethodId} {args : Array Value} {below : List Frame} {meth : Method} {c : Code} (fx : gFx X p s m args meth c cX11_number 4 RX11) (n : Nat) (x0 : Nat) (x1 : Int32) (x2 : Int32) (h0 : gK τ x0 11) {Q : State → Prop} {K : ((Int32 × gG)) → Prop} (hx0 : ∀ (y3 : Int32) (G : gG) (H : Heap) (locs : List Loc) (ls : Array Slot), gHw X τ G H locs → lv_has ls 4 [(0, .ref x0), (1, .int x1), (2, .int x2), (3, .int y3)] → K (y3, G) → W p l e rm_X11_number s m args below meth c H locs 0 0 Q (F0 m 65 ls [])) : ∀ (k : Nat) (x3 : Int32) (G : gG) (H : Heap) (locs : List Loc) (ls : Array Slot), gHw X τ G H locs → lv_has ls 4 [(0, .ref x0), (1, .int x1), (2, .int x2), (3, .int x3)] → gOk (gIter (fun (q : Int32 × gG) => b_X11_number_6 τ n x0 x1 x2 q.1 q.2) k (x3, G)) K → W p l e rm_X11_number s m args below meth c H locs 0 0 Q (F0 m 6 ls []) := by
  intro k
  induction k with
  | zero =>
    intro x3 G H locs ls hw hl hok
    exact gOk_iter0 hok
  | succ k hc =>
    intro x3 G H locs ls hw hl hok
    exact w_b_X11_number_6 fx n x0 x1 x2 x3 h0 hw hl (gOk_iter hok) hc hx0
set_option maxHeartbeats 4000000 in
set_option maxRecDepth 100000 in
theorem w_X11_number_65 {X : gX} {τ : gτ} {p : Program} {l : Launch} {e : Env} {s : State} {m : MethodId} {args : Array Value} {below : List Frame} {meth : Method} {c : Code} (fx : gFx X p s m args meth c cX11_number 4 RX11) (n : Nat) (x0 : Nat) (x1 : Int32) (x2 : Int32) (x3 : Int32)  (h0 : gK τ x0 11)  (hr : meth.sig.returnType = (some .int)) {r : Int32} {G' : gG} {G : gG} {H : Heap} {locs : List Loc} {ls : Array Slot} (hw : gHw X τ G H locs) (hl : lv_has ls 4 [(0, .ref x0), (1, .int x1), (2, .int x2), (3, .int x3)]) (hok : gOk (k_X11_number_65 τ n x0 x1 x2 x3  G) (fun q => q = (r, G')))  : W p l e rm_X11_number s m args below meth c H locs 0 0 (MQ below (gQ X τ (some (.int r)) G') args s 0 0 (gFree X)) (F0 m 65 ls []) := by
  unfold k_X11_number_65 at hok
  refine lv_aload_n fx.1 fx.2.1 dX11_number_65 rfl (lv_at hl 0 rfl) ?_
  refine g_geti fx hw h0 lf_RX11_83 rfl dX11_number_66 ?_
  refine lv_aload_n fx.1 fx.2.1 dX11_number_69 rfl (lv_at hl 0 rfl) ?_
  refine g_geti fx hw h0 lf_RX11_93 rfl dX11_number_70 ?_
  refine g_icmp_eq (tgt := 99) fx dX11_number_73 (by decide) hok (fun hok => ?_) (fun hok => ?_)
  · refine lv_iconst (v := (-1)) fx.1 fx.2.1 dX11_number_99 (by decide) ?_
    refine lv_goto (tgt := 104) fx.1 fx.2.1 dX11_number_100 (by decide) ?_
    cases gOk_some hok
    exact g_iret fx hw hr dX11_number_104
  · refine lv_aload_n fx.1 fx.2.1 dX11_number_76 rfl (lv_at hl 0 rfl) ?_
    refine g_geti fx hw h0 lf_RX11_83 rfl dX11_number_77 ?_
    refine lv_aload_n fx.1 fx.2.1 dX11_number_80 rfl (lv_at hl 0 rfl) ?_
    refine g_geti fx hw h0 lf_RX11_93 rfl dX11_number_81 ?_
    refine lv_isub fx.1 fx.2.1 dX11_number_84 ?_
    refine lv_iconst (v := 3) fx.1 fx.2.1 dX11_number_85 (by decide) ?_
    refine g_icmp_gt (tgt := 99) fx dX11_number_86 (by decide) hok (fun hok => ?_) (fun hok => ?_)
    · refine lv_iconst (v := (-1)) fx.1 fx.2.1 dX11_number_99 (by decide) ?_
      refine lv_goto (tgt := 104) fx.1 fx.2.1 dX11_number_100 (by decide) ?_
      cases gOk_some hok
      exact g_iret fx hw hr dX11_number_104
    · refine lv_iload_n fx.1 fx.2.1 dX11_number_89 rfl (lv_at hl 3 rfl) ?_
      refine lv_iload_n fx.1 fx.2.1 dX11_number_90 rfl (lv_at hl 1 rfl) ?_
      refine g_icmp_lt (tgt := 99) fx dX11_number_91 (by decide) hok (fun hok => ?_) (fun hok => ?_)
      · refine lv_iconst (v := (-1)) fx.1 fx.2.1 dX11_number_99 (by decide) ?_
        refine lv_goto (tgt := 104) fx.1 fx.2.1 dX11_number_100 (by decide) ?_
        cases gOk_some hok
        exact g_iret fx hw hr dX11_number_104
      · refine lv_iload_n fx.1 fx.2.1 dX11_number_94 rfl (lv_at hl 3 rfl) ?_
        refine lv_iload_n fx.1 fx.2.1 dX11_number_95 rfl (lv_at hl 2 rfl) ?_
        refine g_icmp_le (tgt := 103) fx dX11_number_96 (by decide) hok (fun hok => ?_) (fun hok => ?_)
        · refine lv_iload_n fx.1 fx.2.1 dX11_number_103 rfl (lv_at hl 3 rfl) ?_
          cases gOk_some hok
          exact g_iret fx hw hr dX11_number_104
        · refine lv_iconst (v := (-1)) fx.1 fx.2.1 dX11_number_99 (by decide) ?_
          refine lv_goto (tgt := 104) fx.1 fx.2.1 dX11_number_100 (by decide) ?_
          cases gOk_some hok
          exact g_iret fx hw hr dX11_number_104
set_option maxHeartbeats 4000000 in
set_option maxRecDepth 100000 in
theorem c_X11_number (l : Launch) (X : gX) (τ : gτ) (n : Nat) (x0 : Nat) (x1 : Int32) (x2 : Int32) (G : gG) (h0 : gK τ x0 11) {r : Int32} {G' : gG} (h : f_X11_number τ n x0 x1 x2 G = some (r, G')) : gM l X τ yX11_number cX11_number 4 (some .int) rm_X11_number [.ref x0, .int x1, .int x2] G (some (.int r)) G' := by
  refine g_body (by decide +kernel) (Nat.le_of_ble_eq_true rfl) ?_
  intro p e s m args below meth c ls fx hr hw hl
  have fx : gFx X p s m args meth c cX11_number 4 RX11 := fx
  have hl : lv_has ls 4 [(0, .ref x0), (1, .int x1), (2, .int x2)] := hl
  have hok : gOk (f_X11_number τ n x0 x1 x2 G) (fun q => q = (r, G')) := ⟨_, h, rfl⟩
  unfold f_X11_number at hok
  show W p l e rm_X11_number s m args below meth c s.heap [] 0 0 (MQ below (gQ X τ (some (.int r)) G') args s 0 0 (gFree X)) _
  refine lv_aload_n fx.1 fx.2.1 dX11_number_0 rfl (lv_at hl 0 rfl) ?_
  obtain ⟨G1, hf, hok⟩ := gOk_bind hok
  refine g_callV0 (κ := 11) fx hw (c_X11_blanks l X τ n x0 G h0 hf) lv_RX11_96 ⟨rfl, rfl⟩ rfl rfl h0 rfl hl.1 rfl ⟨Nat.le_of_ble_eq_true rfl, Nat.le_of_ble_eq_true rfl⟩ (Nat.le_of_ble_eq_true rfl) ⟨Nat.le_of_ble_eq_true rfl, Nat.le_of_ble_eq_true rfl⟩ dX11_number_1 (fun H locs hw => ?_)
  refine lv_iconst (v := 0) fx.1 fx.2.1 dX11_number_4 (by decide) ?_
  refine lv_istore_n (lv' := [(3, .int (0 : Int32)), (0, .ref x0), (1, .int x1), (2, .int x2)]) fx.1 fx.2.1 dX11_number_5 rfl hl (by decide) rfl (fun ls hl => ?_)
  refine w_l_X11_number_6 fx n x0 x1 x2 h0 ?_ n (0 : Int32) G1 _ _ _  hw (lv_sub hl [1, 2, 3, 0] rfl) (gOk_bindK hok)
  intro z5 G6 H locs ls hw hl hok
  have hok : gOk (ρ := Int32 × gG) (k_X11_number_65 τ n x0 x1 x2 z5  G6) _ := hok
  exact w_X11_number_65 fx n x0 x1 x2 z5  h0  hr hw (lv_sub hl [0, 1, 2, 3] rfl) hok
theorem dX11_after_0 : decode cX11_after 0 = .ok (.aload_n 0, 1) := by decide +kernel
theorem dX11_after_1 : decode cX11_after 1 = .ok (.invokevirtual 108, 3) := by decide +kernel
theorem dX11_after_4 : decode cX11_after 4 = .ok (.aload_n 0, 1) := by decide +kernel
theorem dX11_after_5 : decode cX11_after 5 = .ok (.aload_n 1, 1) := by decide +kernel
theorem dX11_after_6 : decode cX11_after 6 = .ok (.invokevirtual 111, 3) := by decide +kernel
theorem dX11_after_9 : decode cX11_after 9 = .ok (.ifCond .eq 12, 3) := by decide +kernel
theorem dX11_after_12 : decode cX11_after 12 = .ok (.aload_n 0, 1) := by decide +kernel
theorem dX11_after_13 : decode cX11_after 13 = .ok (.iload_n 2, 1) := by decide +kernel
theorem dX11_after_14 : decode cX11_after 14 = .ok (.iload_n 3, 1) := by decide +kernel
theorem dX11_after_15 : decode cX11_after 15 = .ok (.invokevirtual 115, 3) := by decide +kernel
theorem dX11_after_18 : decode cX11_after 18 = .ok (.goto 4, 3) := by decide +kernel
theorem dX11_after_21 : decode cX11_after 21 = .ok (.iconst (-1), 1) := by decide +kernel
theorem dX11_after_22 : decode cX11_after 22 = .ok (.ireturn, 1) := by decide +kernel
theorem lv_RX11_115 : gLv RX11 115 RX11 yX11_number cX11_number 4 (some .int) 2 := gLv_of (wA_t (wt7 (List.mem_of_getElem? (i := 105) (by decide +kernel))) (by decide +kernel)) (wA_t (wt7 (List.mem_of_getElem? (i := 107) (by decide +kernel))) (by decide +kernel)) (wA_of (List.mem_append_left _ (List.mem_map.mpr ⟨(⟨"YearRopeModel", "number", "(II)I"⟩, 20), wp4 (List.mem_of_getElem? (i := 4) (by decide +kernel)), rfl⟩)) (by decide +kernel)) (wA_t (wt1 (List.mem_of_getElem? (i := 12) (by decide +kernel))) (by decide +kernel)) (wA_t (wt7 (List.mem_of_getElem? (i := 108) (by decide +kernel))) (by decide +kernel)) ⟨rfl, by decide +kernel, by decide +kernel, by decide +kernel⟩
def rm_X11_after : Room := { frames := 5, cells := 0, slots := 0, locals := 183 }
def f_X11_after (τ : gτ) (n : Nat) (x0 : Nat) (x1 : List Int32) (x2 : Int32) (x3 : Int32) (G : gG) : Option (Int32 × gG) :=
  (f_X11_letters τ n x0 G).bind fun G1 =>
  (f_X11_isWord τ n x0 x1 G1).bind fun v2 =>
  if v2 = 0 then (some ((-1), G1))
  else (gBind2 (f_X11_number τ n x0 x2 x3 G1) fun v3 G4 =>
  some (v3, G4))
set_option maxHeartbeats 4000000 in
set_option maxRecDepth 100000 in
theorem c_X11_after (l : Launch) (X : gX) (τ : gτ) (n : Nat) (hS : gS0 l X) (x0 : Nat) (x1 : List Int32) (x2 : Int32) (x3 : Int32) (G : gG) (h0 : gK τ x0 11) {w1 : Nat} (h_w1 : gStr X w1 x1) {r : Int32} {G' : gG} (h : f_X11_after τ n x0 x1 x2 x3 G = some (r, G')) : gM l X τ yX11_after cX11_after 4 (some .int) rm_X11_after [.ref x0, .ref w1, .int x2, .int x3] G (some (.int r)) G' := by
  refine g_body (by decide +kernel) (Nat.le_of_ble_eq_true rfl) ?_
  intro p e s m args below meth c ls fx hr hw hl
  have fx : gFx X p s m args meth c cX11_after 4 RX11 := fx
  have hl : lv_has ls 4 [(0, .ref x0), (1, .ref w1), (2, .int x2), (3, .int x3)] := hl
  have hok : gOk (f_X11_after τ n x0 x1 x2 x3 G) (fun q => q = (r, G')) := ⟨_, h, rfl⟩
  unfold f_X11_after at hok
  show W p l e rm_X11_after s m args below meth c s.heap [] 0 0 (MQ below (gQ X τ (some (.int r)) G') args s 0 0 (gFree X)) _
  refine lv_aload_n fx.1 fx.2.1 dX11_after_0 rfl (lv_at hl 0 rfl) ?_
  obtain ⟨G1, hf, hok⟩ := gOk_bind hok
  refine g_callV0 (κ := 11) fx hw (c_X11_letters l X τ n x0 G h0 hf) lv_RX11_108 ⟨rfl, rfl⟩ rfl rfl h0 rfl hl.1 rfl ⟨Nat.le_of_ble_eq_true rfl, Nat.le_of_ble_eq_true rfl⟩ (Nat.le_of_ble_eq_true rfl) ⟨Nat.le_of_ble_eq_true rfl, Nat.le_of_ble_eq_true rfl⟩ dX11_after_1 (fun H locs hw => ?_)
  refine lv_aload_n fx.1 fx.2.1 dX11_after_4 rfl (lv_at hl 0 rfl) ?_
  refine lv_aload_n fx.1 fx.2.1 dX11_after_5 rfl (lv_at hl 1 rfl) ?_
  obtain ⟨v2, hf, hok⟩ := gOk_bind hok
  refine g_callV0 (κ := 11) fx hw (c_X11_isWord l X τ n hS x0 x1 G1 h0 h_w1 hf) lv_RX11_111 ⟨rfl, rfl⟩ rfl rfl h0 rfl hl.1 rfl ⟨Nat.le_of_ble_eq_true rfl, Nat.le_of_ble_eq_true rfl⟩ (Nat.le_of_ble_eq_true rfl) ⟨Nat.le_of_ble_eq_true rfl, Nat.le_of_ble_eq_true rfl⟩ dX11_after_6 (fun H locs hw => ?_)
  refine g_if_eq (tgt := 21) fx dX11_after_9 (by decide) hok (fun hok => ?_) (fun hok => ?_)
  · refine lv_iconst (v := (-1)) fx.1 fx.2.1 dX11_after_21 (by decide) ?_
    cases gOk_some hok
    exact g_iret fx hw hr dX11_after_22
  · refine lv_aload_n fx.1 fx.2.1 dX11_after_12 rfl (lv_at hl 0 rfl) ?_
    refine lv_iload_n fx.1 fx.2.1 dX11_after_13 rfl (lv_at hl 2 rfl) ?_
    refine lv_iload_n fx.1 fx.2.1 dX11_after_14 rfl (lv_at hl 3 rfl) ?_
    obtain ⟨v3, G4, hf, hok⟩ := gOk_bind2 hok
    refine g_callV0 (κ := 11) fx hw (c_X11_number l X τ n x0 x2 x3 G1 h0 hf) lv_RX11_115 ⟨rfl, rfl⟩ rfl rfl h0 rfl hl.1 rfl ⟨Nat.le_of_ble_eq_true rfl, Nat.le_of_ble_eq_true rfl⟩ (Nat.le_of_ble_eq_true rfl) ⟨Nat.le_of_ble_eq_true rfl, Nat.le_of_ble_eq_true rfl⟩ dX11_after_15 (fun H locs hw => ?_)
    refine lv_goto (tgt := 22) fx.1 fx.2.1 dX11_after_18 (by decide) ?_
    cases gOk_some hok
    exact g_iret fx hw hr dX11_after_22
theorem dX11_fault_0 : decode cX11_fault 0 = .ok (.aload_n 0, 1) := by decide +kernel
theorem dX11_fault_1 : decode cX11_fault 1 = .ok (.iconst 0, 1) := by decide +kernel
theorem dX11_fault_2 : decode cX11_fault 2 = .ok (.putfield 3, 3) := by decide +kernel
theorem dX11_fault_5 : decode cX11_fault 5 = .ok (.aload_n 0, 1) := by decide +kernel
theorem dX11_fault_6 : decode cX11_fault 6 = .ok (.getfield 33, 3) := by decide +kernel
theorem dX11_fault_9 : decode cX11_fault 9 = .ok (.ireturn, 1) := by decide +kernel
theorem lf_RX11_33 : gLf RX11 33 11 14 := ⟨(RX11, TX11, 20), rfl, by decide, wA_t (wt6 (List.mem_of_getElem? (i := 227) (by decide +kernel))) (by decide +kernel), rfl⟩
def rm_X11_fault : Room := { frames := 0, cells := 0, slots := 0, locals := 0 }
def f_X11_fault (x0 : Nat) (G : gG) : Option (Int32 × gG) :=
  gLet (gsi G 11 0 x0 (0 : Int32)) fun G1 =>
  some (gi G1 11 14 x0, G1)
set_option maxHeartbeats 4000000 in
set_option maxRecDepth 100000 in
theorem c_X11_fault (l : Launch) (X : gX) (τ : gτ) (x0 : Nat) (G : gG) (h0 : gK τ x0 11) {r : Int32} {G' : gG} (h : f_X11_fault x0 G = some (r, G')) : gM l X τ yX11_fault cX11_fault 1 (some .int) rm_X11_fault [.ref x0] G (some (.int r)) G' := by
  refine g_body (by decide +kernel) (Nat.le_of_ble_eq_true rfl) ?_
  intro p e s m args below meth c ls fx hr hw hl
  have fx : gFx X p s m args meth c cX11_fault 1 RX11 := fx
  have hl : lv_has ls 1 [(0, .ref x0)] := hl
  have hok : gOk (f_X11_fault x0 G) (fun q => q = (r, G')) := ⟨_, h, rfl⟩
  unfold f_X11_fault at hok
  show W p l e rm_X11_fault s m args below meth c s.heap [] 0 0 (MQ below (gQ X τ (some (.int r)) G') args s 0 0 (gFree X)) _
  refine lv_aload_n fx.1 fx.2.1 dX11_fault_0 rfl (lv_at hl 0 rfl) ?_
  refine lv_iconst (v := 0) fx.1 fx.2.1 dX11_fault_1 (by decide) ?_
  refine g_puti fx hw h0 lp_RX11_3 rfl rfl dX11_fault_2 hok (fun G1 H locs hw hok => ?_)
  refine lv_aload_n fx.1 fx.2.1 dX11_fault_5 rfl (lv_at hl 0 rfl) ?_
  refine g_geti fx hw h0 lf_RX11_33 rfl dX11_fault_6 ?_
  cases gOk_some hok
  exact g_iret fx hw hr dX11_fault_9
theorem dX11_uses_0 : decode cX11_uses 0 = .ok (.aload_n 0, 1) := by decide +kernel
theorem dX11_uses_1 : decode cX11_uses 1 = .ok (.iconst 0, 1) := by decide +kernel
theorem dX11_uses_2 : decode cX11_uses 2 = .ok (.putfield 3, 3) := by decide +kernel
theorem dX11_uses_5 : decode cX11_uses 5 = .ok (.aload_n 0, 1) := by decide +kernel
theorem dX11_uses_6 : decode cX11_uses 6 = .ok (.aload_n 0, 1) := by decide +kernel
theorem dX11_uses_7 : decode cX11_uses 7 = .ok (.getfield 80, 3) := by decide +kernel
theorem dX11_uses_10 : decode cX11_uses 10 = .ok (.putfield 86, 3) := by decide +kernel
theorem dX11_uses_13 : decode cX11_uses 13 = .ok (.aload_n 0, 1) := by decide +kernel
theorem dX11_uses_14 : decode cX11_uses 14 = .ok (.iconst 0, 1) := by decide +kernel
theorem dX11_uses_15 : decode cX11_uses 15 = .ok (.putfield 80, 3) := by decide +kernel
theorem dX11_uses_18 : decode cX11_uses 18 = .ok (.aload_n 0, 1) := by decide +kernel
theorem dX11_uses_19 : decode cX11_uses 19 = .ok (.iconst 0, 1) := by decide +kernel
theorem dX11_uses_20 : decode cX11_uses 20 = .ok (.putfield 83, 3) := by decide +kernel
theorem dX11_uses_23 : decode cX11_uses 23 = .ok (.return_, 1) := by decide +kernel
theorem lp_RX11_86 : gLp RX11 86 11 11 := ⟨(RX11, TX11, 20), rfl, by decide, wA_t (wt6 (List.mem_of_getElem? (i := 224) (by decide +kernel))) (by decide +kernel), rfl, rfl⟩
def rm_X11_uses : Room := { frames := 0, cells := 0, slots := 0, locals := 0 }
def f_X11_uses (x0 : Nat) (G : gG) : Option (gG) :=
  gLet (gsi G 11 0 x0 (0 : Int32)) fun G1 =>
  gLet (gsi G1 11 11 x0 (gi G1 11 9 x0)) fun G2 =>
  gLet (gsi G2 11 9 x0 (0 : Int32)) fun G3 =>
  gLet (gsi G3 11 10 x0 (0 : Int32)) fun G4 =>
  some G4
set_option maxHeartbeats 4000000 in
set_option maxRecDepth 100000 in
theorem c_X11_uses (l : Launch) (X : gX) (τ : gτ) (x0 : Nat) (G : gG) (h0 : gK τ x0 11) {G' : gG} (h : f_X11_uses x0 G = some G') : gM l X τ yX11_uses cX11_uses 1 none rm_X11_uses [.ref x0] G none G' := by
  refine g_body (by decide +kernel) (Nat.le_of_ble_eq_true rfl) ?_
  intro p e s m args below meth c ls fx hr hw hl
  have fx : gFx X p s m args meth c cX11_uses 1 RX11 := fx
  have hl : lv_has ls 1 [(0, .ref x0)] := hl
  have hok : gOk (f_X11_uses x0 G) (fun q => q = G') := ⟨_, h, rfl⟩
  unfold f_X11_uses at hok
  show W p l e rm_X11_uses s m args below meth c s.heap [] 0 0 (MQ below (gQ X τ none G') args s 0 0 (gFree X)) _
  refine lv_aload_n fx.1 fx.2.1 dX11_uses_0 rfl (lv_at hl 0 rfl) ?_
  refine lv_iconst (v := 0) fx.1 fx.2.1 dX11_uses_1 (by decide) ?_
  refine g_puti fx hw h0 lp_RX11_3 rfl rfl dX11_uses_2 hok (fun G1 H locs hw hok => ?_)
  refine lv_aload_n fx.1 fx.2.1 dX11_uses_5 rfl (lv_at hl 0 rfl) ?_
  refine lv_aload_n fx.1 fx.2.1 dX11_uses_6 rfl (lv_at hl 0 rfl) ?_
  refine g_geti fx hw h0 lf_RX11_80 rfl dX11_uses_7 ?_
  refine g_puti fx hw h0 lp_RX11_86 rfl rfl dX11_uses_10 hok (fun G2 H locs hw hok => ?_)
  refine lv_aload_n fx.1 fx.2.1 dX11_uses_13 rfl (lv_at hl 0 rfl) ?_
  refine lv_iconst (v := 0) fx.1 fx.2.1 dX11_uses_14 (by decide) ?_
  refine g_puti fx hw h0 lp_RX11_80 rfl rfl dX11_uses_15 hok (fun G3 H locs hw hok => ?_)
  refine lv_aload_n fx.1 fx.2.1 dX11_uses_18 rfl (lv_at hl 0 rfl) ?_
  refine lv_iconst (v := 0) fx.1 fx.2.1 dX11_uses_19 (by decide) ?_
  refine g_puti fx hw h0 lp_RX11_83 rfl rfl dX11_uses_20 hok (fun G4 H locs hw hok => ?_)
  cases gOk_some hok
  exact g_vret fx hw hr dX11_uses_23
theorem dX11_readYarn_0 : decode cX11_readYarn 0 = .ok (.aload_n 0, 1) := by decide +kernel
theorem dX11_readYarn_1 : decode cX11_readYarn 1 = .ok (.invokevirtual 65, 3) := by decide +kernel
theorem dX11_readYarn_4 : decode cX11_readYarn 4 = .ok (.istore_n 1, 1) := by decide +kernel
theorem dX11_readYarn_5 : decode cX11_readYarn 5 = .ok (.iload_n 1, 1) := by decide +kernel
theorem dX11_readYarn_6 : decode cX11_readYarn 6 = .ok (.bipush 10, 2) := by decide +kernel
theorem dX11_readYarn_8 : decode cX11_readYarn 8 = .ok (.if_icmp .ne 5, 3) := by decide +kernel
theorem dX11_readYarn_11 : decode cX11_readYarn 11 = .ok (.iconst 0, 1) := by decide +kernel
theorem dX11_readYarn_12 : decode cX11_readYarn 12 = .ok (.ireturn, 1) := by decide +kernel
theorem dX11_readYarn_13 : decode cX11_readYarn 13 = .ok (.aload_n 0, 1) := by decide +kernel
theorem dX11_readYarn_14 : decode cX11_readYarn 14 = .ok (.iconst 1, 1) := by decide +kernel
theorem dX11_readYarn_15 : decode cX11_readYarn 15 = .ok (.bipush 30, 2) := by decide +kernel
theorem dX11_readYarn_17 : decode cX11_readYarn 17 = .ok (.invokevirtual 115, 3) := by decide +kernel
theorem dX11_readYarn_20 : decode cX11_readYarn 20 = .ok (.istore_n 2, 1) := by decide +kernel
theorem dX11_readYarn_21 : decode cX11_readYarn 21 = .ok (.iload_n 2, 1) := by decide +kernel
theorem dX11_readYarn_22 : decode cX11_readYarn 22 = .ok (.ifCond .ge 7, 3) := by decide +kernel
theorem dX11_readYarn_25 : decode cX11_readYarn 25 = .ok (.iconst (-1), 1) := by decide +kernel
theorem dX11_readYarn_26 : decode cX11_readYarn 26 = .ok (.goto 13, 3) := by decide +kernel
theorem dX11_readYarn_29 : decode cX11_readYarn 29 = .ok (.aload_n 0, 1) := by decide +kernel
theorem dX11_readYarn_30 : decode cX11_readYarn 30 = .ok (.ldc 118, 2) := by decide +kernel
theorem dX11_readYarn_32 : decode cX11_readYarn 32 = .ok (.iconst 0, 1) := by decide +kernel
theorem dX11_readYarn_33 : decode cX11_readYarn 33 = .ok (.sipush 200, 3) := by decide +kernel
theorem dX11_readYarn_36 : decode cX11_readYarn 36 = .ok (.invokevirtual 120, 3) := by decide +kernel
theorem dX11_readYarn_39 : decode cX11_readYarn 39 = .ok (.istore_n 3, 1) := by decide +kernel
theorem dX11_readYarn_40 : decode cX11_readYarn 40 = .ok (.iload_n 3, 1) := by decide +kernel
theorem dX11_readYarn_41 : decode cX11_readYarn 41 = .ok (.ifCond .ge 7, 3) := by decide +kernel
theorem dX11_readYarn_44 : decode cX11_readYarn 44 = .ok (.iconst (-1), 1) := by decide +kernel
theorem dX11_readYarn_45 : decode cX11_readYarn 45 = .ok (.goto 12, 3) := by decide +kernel
theorem dX11_readYarn_48 : decode cX11_readYarn 48 = .ok (.aload_n 0, 1) := by decide +kernel
theorem dX11_readYarn_49 : decode cX11_readYarn 49 = .ok (.ldc 124, 2) := by decide +kernel
theorem dX11_readYarn_51 : decode cX11_readYarn 51 = .ok (.iconst 0, 1) := by decide +kernel
theorem dX11_readYarn_52 : decode cX11_readYarn 52 = .ok (.bipush 9, 2) := by decide +kernel
theorem dX11_readYarn_54 : decode cX11_readYarn 54 = .ok (.invokevirtual 120, 3) := by decide +kernel
theorem dX11_readYarn_57 : decode cX11_readYarn 57 = .ok (.istore 4, 2) := by decide +kernel
theorem dX11_readYarn_59 : decode cX11_readYarn 59 = .ok (.iload 4, 2) := by decide +kernel
theorem dX11_readYarn_61 : decode cX11_readYarn 61 = .ok (.ifCond .ge 7, 3) := by decide +kernel
theorem dX11_readYarn_64 : decode cX11_readYarn 64 = .ok (.iconst (-1), 1) := by decide +kernel
theorem dX11_readYarn_65 : decode cX11_readYarn 65 = .ok (.goto 11, 3) := by decide +kernel
theorem dX11_readYarn_68 : decode cX11_readYarn 68 = .ok (.aload_n 0, 1) := by decide +kernel
theorem dX11_readYarn_69 : decode cX11_readYarn 69 = .ok (.ldc 126, 2) := by decide +kernel
theorem dX11_readYarn_71 : decode cX11_readYarn 71 = .ok (.iconst 0, 1) := by decide +kernel
theorem dX11_readYarn_72 : decode cX11_readYarn 72 = .ok (.iconst 5, 1) := by decide +kernel
theorem dX11_readYarn_73 : decode cX11_readYarn 73 = .ok (.invokevirtual 120, 3) := by decide +kernel
theorem dX11_readYarn_76 : decode cX11_readYarn 76 = .ok (.istore 5, 2) := by decide +kernel
theorem dX11_readYarn_78 : decode cX11_readYarn 78 = .ok (.iload 5, 2) := by decide +kernel
theorem dX11_readYarn_80 : decode cX11_readYarn 80 = .ok (.ifCond .ge 5, 3) := by decide +kernel
theorem dX11_readYarn_83 : decode cX11_readYarn 83 = .ok (.iconst 0, 1) := by decide +kernel
theorem dX11_readYarn_84 : decode cX11_readYarn 84 = .ok (.ireturn, 1) := by decide +kernel
theorem dX11_readYarn_85 : decode cX11_readYarn 85 = .ok (.aload_n 0, 1) := by decide +kernel
theorem dX11_readYarn_86 : decode cX11_readYarn 86 = .ok (.getfield 13, 3) := by decide +kernel
theorem dX11_readYarn_89 : decode cX11_readYarn 89 = .ok (.iload_n 1, 1) := by decide +kernel
theorem dX11_readYarn_90 : decode cX11_readYarn 90 = .ok (.iconst 0, 1) := by decide +kernel
theorem dX11_readYarn_91 : decode cX11_readYarn 91 = .ok (.invokestatic 55, 3) := by decide +kernel
theorem dX11_readYarn_94 : decode cX11_readYarn 94 = .ok (.iload_n 2, 1) := by decide +kernel
theorem dX11_readYarn_95 : decode cX11_readYarn 95 = .ok (.iastore, 1) := by decide +kernel
theorem dX11_readYarn_96 : decode cX11_readYarn 96 = .ok (.aload_n 0, 1) := by decide +kernel
theorem dX11_readYarn_97 : decode cX11_readYarn 97 = .ok (.getfield 13, 3) := by decide +kernel
theorem dX11_readYarn_100 : decode cX11_readYarn 100 = .ok (.iload_n 1, 1) := by decide +kernel
theorem dX11_readYarn_101 : decode cX11_readYarn 101 = .ok (.iconst 1, 1) := by decide +kernel
theorem dX11_readYarn_102 : decode cX11_readYarn 102 = .ok (.invokestatic 55, 3) := by decide +kernel
theorem dX11_readYarn_105 : decode cX11_readYarn 105 = .ok (.iload_n 3, 1) := by decide +kernel
theorem dX11_readYarn_106 : decode cX11_readYarn 106 = .ok (.iastore, 1) := by decide +kernel
theorem dX11_readYarn_107 : decode cX11_readYarn 107 = .ok (.aload_n 0, 1) := by decide +kernel
theorem dX11_readYarn_108 : decode cX11_readYarn 108 = .ok (.getfield 13, 3) := by decide +kernel
theorem dX11_readYarn_111 : decode cX11_readYarn 111 = .ok (.iload_n 1, 1) := by decide +kernel
theorem dX11_readYarn_112 : decode cX11_readYarn 112 = .ok (.iconst 2, 1) := by decide +kernel
theorem dX11_readYarn_113 : decode cX11_readYarn 113 = .ok (.invokestatic 55, 3) := by decide +kernel
theorem dX11_readYarn_116 : decode cX11_readYarn 116 = .ok (.iload 4, 2) := by decide +kernel
theorem dX11_readYarn_118 : decode cX11_readYarn 118 = .ok (.iastore, 1) := by decide +kernel
theorem dX11_readYarn_119 : decode cX11_readYarn 119 = .ok (.aload_n 0, 1) := by decide +kernel
theorem dX11_readYarn_120 : decode cX11_readYarn 120 = .ok (.getfield 13, 3) := by decide +kernel
theorem dX11_readYarn_123 : decode cX11_readYarn 123 = .ok (.iload_n 1, 1) := by decide +kernel
theorem dX11_readYarn_124 : decode cX11_readYarn 124 = .ok (.iconst 3, 1) := by decide +kernel
theorem dX11_readYarn_125 : decode cX11_readYarn 125 = .ok (.invokestatic 55, 3) := by decide +kernel
theorem dX11_readYarn_128 : decode cX11_readYarn 128 = .ok (.iload 5, 2) := by decide +kernel
theorem dX11_readYarn_130 : decode cX11_readYarn 130 = .ok (.iastore, 1) := by decide +kernel
theorem dX11_readYarn_131 : decode cX11_readYarn 131 = .ok (.aload_n 0, 1) := by decide +kernel
theorem dX11_readYarn_132 : decode cX11_readYarn 132 = .ok (.getfield 13, 3) := by decide +kernel
theorem dX11_readYarn_135 : decode cX11_readYarn 135 = .ok (.iconst 0, 1) := by decide +kernel
theorem dX11_readYarn_136 : decode cX11_readYarn 136 = .ok (.dup2, 1) := by decide +kernel
theorem dX11_readYarn_137 : decode cX11_readYarn 137 = .ok (.iaload, 1) := by decide +kernel
theorem dX11_readYarn_138 : decode cX11_readYarn 138 = .ok (.iconst 1, 1) := by decide +kernel
theorem dX11_readYarn_139 : decode cX11_readYarn 139 = .ok (.iadd, 1) := by decide +kernel
theorem dX11_readYarn_140 : decode cX11_readYarn 140 = .ok (.iastore, 1) := by decide +kernel
theorem dX11_readYarn_141 : decode cX11_readYarn 141 = .ok (.iconst 1, 1) := by decide +kernel
theorem dX11_readYarn_142 : decode cX11_readYarn 142 = .ok (.ireturn, 1) := by decide +kernel
theorem lv_RX11_120 : gLv RX11 120 RX11 yX11_after cX11_after 4 (some .int) 3 := gLv_of (wA_t (wt7 (List.mem_of_getElem? (i := 110) (by decide +kernel))) (by decide +kernel)) (wA_t (wt7 (List.mem_of_getElem? (i := 112) (by decide +kernel))) (by decide +kernel)) (wA_of (List.mem_append_left _ (List.mem_map.mpr ⟨(⟨"YearRopeModel", "after", "(Ljava/lang/String;II)I"⟩, 20), wp4 (List.mem_of_getElem? (i := 5) (by decide +kernel)), rfl⟩)) (by decide +kernel)) (wA_t (wt1 (List.mem_of_getElem? (i := 12) (by decide +kernel))) (by decide +kernel)) (wA_t (wt7 (List.mem_of_getElem? (i := 113) (by decide +kernel))) (by decide +kernel)) ⟨rfl, by decide +kernel, by decide +kernel, by decide +kernel⟩
def rm_X11_readYarn : Room := { frames := 6, cells := 0, slots := 0, locals := 206 }
def k_X11_readYarn_76 (τ : gτ) (n : Nat) (x0 : Nat) (x1 : Int32) (x2 : Int32) (x3 : Int32) (x4 : Int32) (s0 : Int32) (G : gG) : Option (Int32 × gG) :=
  if 0 ≤ s0 then ((gr G 11 1 x0).bind fun a13 =>
  (f_X11_yarnAt x1 (0 : Int32)).bind fun v14 =>
  gchk (gIn v14 (gn τ a13)) <| gLet (gse G a13 (Int32.toNatClampNeg v14) x2) fun G15 =>
  (gr G15 11 1 x0).bind fun a16 =>
  (f_X11_yarnAt x1 (1 : Int32)).bind fun v17 =>
  gchk (gIn v17 (gn τ a16)) <| gLet (gse G15 a16 (Int32.toNatClampNeg v17) x3) fun G18 =>
  (gr G18 11 1 x0).bind fun a19 =>
  (f_X11_yarnAt x1 (2 : Int32)).bind fun v20 =>
  gchk (gIn v20 (gn τ a19)) <| gLet (gse G18 a19 (Int32.toNatClampNeg v20) x4) fun G21 =>
  (gr G21 11 1 x0).bind fun a22 =>
  (f_X11_yarnAt x1 (3 : Int32)).bind fun v23 =>
  gchk (gIn v23 (gn τ a22)) <| gLet (gse G21 a22 (Int32.toNatClampNeg v23) s0) fun G24 =>
  (gr G24 11 1 x0).bind fun a25 =>
  gchk (gIn (0 : Int32) (gn τ a25)) <|
  gchk (gIn (0 : Int32) (gn τ a25)) <| gLet (gse G24 a25 (Int32.toNatClampNeg (0 : Int32)) ((ge G24 a25 (Int32.toNatClampNeg (0 : Int32))) + (1 : Int32))) fun G26 =>
  some (1, G26))
  else (some (0, G))
def k_X11_readYarn_57 (τ : gτ) (n : Nat) (x0 : Nat) (x1 : Int32) (x2 : Int32) (x3 : Int32) (s0 : Int32) (G : gG) : Option (Int32 × gG) :=
  if 0 ≤ s0 then (gBind2 (f_X11_after τ n x0 s_reign (0 : Int32) (5 : Int32) G) fun v11 G12 =>
  k_X11_readYarn_76 τ n x0 x1 x2 x3 s0 v11 G12)
  else (k_X11_readYarn_76 τ n x0 x1 x2 x3 s0 (-1 : Int32) G)
def k_X11_readYarn_39 (τ : gτ) (n : Nat) (x0 : Nat) (x1 : Int32) (x2 : Int32) (s0 : Int32) (G : gG) : Option (Int32 × gG) :=
  if 0 ≤ s0 then (gBind2 (f_X11_after τ n x0 s_rot (0 : Int32) (9 : Int32) G) fun v8 G9 =>
  k_X11_readYarn_57 τ n x0 x1 x2 s0 v8 G9)
  else (k_X11_readYarn_57 τ n x0 x1 x2 s0 (-1 : Int32) G)
def f_X11_readYarn (τ : gτ) (n : Nat) (x0 : Nat) (G : gG) : Option (Int32 × gG) :=
  (f_X11_yarns τ x0 G).bind fun v1 =>
  if v1 = (10 : Int32) then (some (0, G))
  else (gBind2 (f_X11_number τ n x0 (1 : Int32) (30 : Int32) G) fun v2 G3 =>
  if 0 ≤ v2 then (gBind2 (f_X11_after τ n x0 s_long (0 : Int32) (200 : Int32) G3) fun v5 G6 =>
  k_X11_readYarn_39 τ n x0 v1 v2 v5 G6)
  else (k_X11_readYarn_39 τ n x0 v1 v2 (-1 : Int32) G3))
set_option maxHeartbeats 4000000 in
set_option maxRecDepth 100000 in
theorem w_X11_readYarn_76 {X : gX} {τ : gτ} {p : Program} {l : Launch} {e : Env} {s : State} {m : MethodId} {args : Array Value} {below : List Frame} {meth : Method} {c : Code} (fx : gFx X p s m args meth c cX11_readYarn 6 RX11) (hS : gS0 l X) (n : Nat) (x0 : Nat) (x1 : Int32) (x2 : Int32) (x3 : Int32) (x4 : Int32) (s0 : Int32) (h0 : gK τ x0 11)  (hr : meth.sig.returnType = (some .boolean)) {r : Int32} {G' : gG} {G : gG} {H : Heap} {locs : List Loc} {ls : Array Slot} (hw : gHw X τ G H locs) (hl : lv_has ls 6 [(0, .ref x0), (1, .int x1), (2, .int x2), (3, .int x3), (4, .int x4)]) (hok : gOk (k_X11_readYarn_76 τ n x0 x1 x2 x3 x4 s0 G) (fun q => q = (r, G')))  : W p l e rm_X11_readYarn s m args below meth c H locs 0 0 (MQ below (gQ X τ (some (.int r)) G') args s 0 0 (gFree X)) (F0 m 76 ls [.int s0]) := by
  unfold k_X11_readYarn_76 at hok
  refine lv_istore (lv' := [(5, .int s0), (0, .ref x0), (1, .int x1), (2, .int x2), (3, .int x3), (4, .int x4)]) fx.1 fx.2.1 dX11_readYarn_76 hl (by decide) rfl (fun ls hl => ?_)
  refine lv_iload fx.1 fx.2.1 dX11_readYarn_78 (lv_at hl 0 rfl) ?_
  refine g_if_ge (tgt := 85) fx dX11_readYarn_80 (by decide) hok (fun hok => ?_) (fun hok => ?_)
  · refine lv_aload_n fx.1 fx.2.1 dX11_readYarn_85 rfl (lv_at hl 1 rfl) ?_
    refine g_getr fx hw h0 lf_RX11_13 rfl dX11_readYarn_86 hok (fun a13 h_a13 hok => ?_)
    refine lv_iload_n fx.1 fx.2.1 dX11_readYarn_89 rfl (lv_at hl 2 rfl) ?_
    refine lv_iconst (v := 0) fx.1 fx.2.1 dX11_readYarn_90 (by decide) ?_
    obtain ⟨v14, hf, hok⟩ := gOk_bind hok
    refine g_callS0 fx hw (c_X11_yarnAt l X τ x1 (0 : Int32) G  hf) ls_RX11_55 ⟨rfl, rfl⟩ rfl hl.1 rfl ⟨Nat.le_of_ble_eq_true rfl, Nat.le_of_ble_eq_true rfl⟩ (Nat.le_of_ble_eq_true rfl) ⟨Nat.le_of_ble_eq_true rfl, Nat.le_of_ble_eq_true rfl⟩ dX11_readYarn_91 (fun H locs hw => ?_)
    refine lv_iload_n fx.1 fx.2.1 dX11_readYarn_94 rfl (lv_at hl 3 rfl) ?_
    refine g_iast fx hw h_a13 dX11_readYarn_95 hok (fun G15 H locs hw hok => ?_)
    refine lv_aload_n fx.1 fx.2.1 dX11_readYarn_96 rfl (lv_at hl 1 rfl) ?_
    refine g_getr fx hw h0 lf_RX11_13 rfl dX11_readYarn_97 hok (fun a16 h_a16 hok => ?_)
    refine lv_iload_n fx.1 fx.2.1 dX11_readYarn_100 rfl (lv_at hl 2 rfl) ?_
    refine lv_iconst (v := 1) fx.1 fx.2.1 dX11_readYarn_101 (by decide) ?_
    obtain ⟨v17, hf, hok⟩ := gOk_bind hok
    refine g_callS0 fx hw (c_X11_yarnAt l X τ x1 (1 : Int32) G15  hf) ls_RX11_55 ⟨rfl, rfl⟩ rfl hl.1 rfl ⟨Nat.le_of_ble_eq_true rfl, Nat.le_of_ble_eq_true rfl⟩ (Nat.le_of_ble_eq_true rfl) ⟨Nat.le_of_ble_eq_true rfl, Nat.le_of_ble_eq_true rfl⟩ dX11_readYarn_102 (fun H locs hw => ?_)
    refine lv_iload_n fx.1 fx.2.1 dX11_readYarn_105 rfl (lv_at hl 4 rfl) ?_
    refine g_iast fx hw h_a16 dX11_readYarn_106 hok (fun G18 H locs hw hok => ?_)
    refine lv_aload_n fx.1 fx.2.1 dX11_readYarn_107 rfl (lv_at hl 1 rfl) ?_
    refine g_getr fx hw h0 lf_RX11_13 rfl dX11_readYarn_108 hok (fun a19 h_a19 hok => ?_)
    refine lv_iload_n fx.1 fx.2.1 dX11_readYarn_111 rfl (lv_at hl 2 rfl) ?_
    refine lv_iconst (v := 2) fx.1 fx.2.1 dX11_readYarn_112 (by decide) ?_
    obtain ⟨v20, hf, hok⟩ := gOk_bind hok
    refine g_callS0 fx hw (c_X11_yarnAt l X τ x1 (2 : Int32) G18  hf) ls_RX11_55 ⟨rfl, rfl⟩ rfl hl.1 rfl ⟨Nat.le_of_ble_eq_true rfl, Nat.le_of_ble_eq_true rfl⟩ (Nat.le_of_ble_eq_true rfl) ⟨Nat.le_of_ble_eq_true rfl, Nat.le_of_ble_eq_true rfl⟩ dX11_readYarn_113 (fun H locs hw => ?_)
    refine lv_iload fx.1 fx.2.1 dX11_readYarn_116 (lv_at hl 5 rfl) ?_
    refine g_iast fx hw h_a19 dX11_readYarn_118 hok (fun G21 H locs hw hok => ?_)
    refine lv_aload_n fx.1 fx.2.1 dX11_readYarn_119 rfl (lv_at hl 1 rfl) ?_
    refine g_getr fx hw h0 lf_RX11_13 rfl dX11_readYarn_120 hok (fun a22 h_a22 hok => ?_)
    refine lv_iload_n fx.1 fx.2.1 dX11_readYarn_123 rfl (lv_at hl 2 rfl) ?_
    refine lv_iconst (v := 3) fx.1 fx.2.1 dX11_readYarn_124 (by decide) ?_
    obtain ⟨v23, hf, hok⟩ := gOk_bind hok
    refine g_callS0 fx hw (c_X11_yarnAt l X τ x1 (3 : Int32) G21  hf) ls_RX11_55 ⟨rfl, rfl⟩ rfl hl.1 rfl ⟨Nat.le_of_ble_eq_true rfl, Nat.le_of_ble_eq_true rfl⟩ (Nat.le_of_ble_eq_true rfl) ⟨Nat.le_of_ble_eq_true rfl, Nat.le_of_ble_eq_true rfl⟩ dX11_readYarn_125 (fun H locs hw => ?_)
    refine lv_iload fx.1 fx.2.1 dX11_readYarn_128 (lv_at hl 0 rfl) ?_
    refine g_iast fx hw h_a22 dX11_readYarn_130 hok (fun G24 H locs hw hok => ?_)
    refine lv_aload_n fx.1 fx.2.1 dX11_readYarn_131 rfl (lv_at hl 1 rfl) ?_
    refine g_getr fx hw h0 lf_RX11_13 rfl dX11_readYarn_132 hok (fun a25 h_a25 hok => ?_)
    refine lv_iconst (v := 0) fx.1 fx.2.1 dX11_readYarn_135 (by decide) ?_
    refine lv_dup2_11 fx.1 fx.2.1 dX11_readYarn_136 rfl rfl ?_
    refine g_iald fx hw h_a25 dX11_readYarn_137 hok (fun hok => ?_)
    refine lv_iconst (v := 1) fx.1 fx.2.1 dX11_readYarn_138 (by decide) ?_
    refine lv_iadd fx.1 fx.2.1 dX11_readYarn_139 ?_
    refine g_iast fx hw h_a25 dX11_readYarn_140 hok (fun G26 H locs hw hok => ?_)
    refine lv_iconst (v := 1) fx.1 fx.2.1 dX11_readYarn_141 (by decide) ?_
    cases gOk_some hok
    exact g_zret fx hw hr (by decide) dX11_readYarn_142
  · refine lv_iconst (v := 0) fx.1 fx.2.1 dX11_readYarn_83 (by decide) ?_
    cases gOk_some hok
    exact g_zret fx hw hr (by decide) dX11_readYarn_84
set_option maxHeartbeats 4000000 in
set_option maxRecDepth 100000 in
theorem w_X11_readYarn_57 {X : gX} {τ : gτ} {p : Program} {l : Launch} {e : Env} {s : State} {m : MethodId} {args : Array Value} {below : List Frame} {meth : Method} {c : Code} (fx : gFx X p s m args meth c cX11_readYarn 6 RX11) (hS : gS0 l X) (n : Nat) (x0 : Nat) (x1 : Int32) (x2 : Int32) (x3 : Int32) (s0 : Int32) (h0 : gK τ x0 11)  (hr : meth.sig.returnType = (some .boolean)) {r : Int32} {G' : gG} {G : gG} {H : Heap} {locs : List Loc} {ls : Array Slot} (hw : gHw X τ G H locs) (hl : lv_has ls 6 [(0, .ref x0), (1, .int x1), (2, .int x2), (3, .int x3)]) (hok : gOk (k_X11_readYarn_57 τ n x0 x1 x2 x3 s0 G) (fun q => q = (r, G')))  : W p l e rm_X11_readYarn s m args below meth c H locs 0 0 (MQ below (gQ X τ (some (.int r)) G') args s 0 0 (gFree X)) (F0 m 57 ls [.int s0]) := by
  unfold k_X11_readYarn_57 at hok
  refine lv_istore (lv' := [(4, .int s0), (0, .ref x0), (1, .int x1), (2, .int x2), (3, .int x3)]) fx.1 fx.2.1 dX11_readYarn_57 hl (by decide) rfl (fun ls hl => ?_)
  refine lv_iload fx.1 fx.2.1 dX11_readYarn_59 (lv_at hl 0 rfl) ?_
  refine g_if_ge (tgt := 68) fx dX11_readYarn_61 (by decide) hok (fun hok => ?_) (fun hok => ?_)
  · refine lv_aload_n fx.1 fx.2.1 dX11_readYarn_68 rfl (lv_at hl 1 rfl) ?_
    refine g_ldcS fx hS gt_RX11_126 dX11_readYarn_69 (fun w10 h_w10 => ?_)
    refine lv_iconst (v := 0) fx.1 fx.2.1 dX11_readYarn_71 (by decide) ?_
    refine lv_iconst (v := 5) fx.1 fx.2.1 dX11_readYarn_72 (by decide) ?_
    obtain ⟨v11, G12, hf, hok⟩ := gOk_bind2 hok
    refine g_callV0 (κ := 11) fx hw (c_X11_after l X τ n hS x0 s_reign (0 : Int32) (5 : Int32) G h0 h_w10 hf) lv_RX11_120 ⟨rfl, rfl⟩ rfl rfl h0 rfl hl.1 rfl ⟨Nat.le_of_ble_eq_true rfl, Nat.le_of_ble_eq_true rfl⟩ (Nat.le_of_ble_eq_true rfl) ⟨Nat.le_of_ble_eq_true rfl, Nat.le_of_ble_eq_true rfl⟩ dX11_readYarn_73 (fun H locs hw => ?_)
    exact w_X11_readYarn_76 fx hS n x0 x1 x2 x3 s0 v11 h0  hr hw (lv_sub hl [1, 2, 3, 4, 0] rfl) hok
  · refine lv_iconst (v := (-1)) fx.1 fx.2.1 dX11_readYarn_64 (by decide) ?_
    refine lv_goto (tgt := 76) fx.1 fx.2.1 dX11_readYarn_65 (by decide) ?_
    exact w_X11_readYarn_76 fx hS n x0 x1 x2 x3 s0 (-1 : Int32) h0  hr hw (lv_sub hl [1, 2, 3, 4, 0] rfl) hok
set_option maxHeartbeats 4000000 in
set_option maxRecDepth 100000 in
theorem w_X11_readYarn_39 {X : gX} {τ : gτ} {p : Program} {l : Launch} {e : Env} {s : State} {m : MethodId} {args : Array Value} {below : List Frame} {meth : Method} {c : Code} (fx : gFx X p s m args meth c cX11_readYarn 6 RX11) (hS : gS0 l X) (n : Nat) (x0 : Nat) (x1 : Int32) (x2 : Int32) (s0 : Int32) (h0 : gK τ x0 11)  (hr : meth.sig.returnType = (some .boolean)) {r : Int32} {G' : gG} {G : gG} {H : Heap} {locs : List Loc} {ls : Array Slot} (hw : gHw X τ G H locs) (hl : lv_has ls 6 [(0, .ref x0), (1, .int x1), (2, .int x2)]) (hok : gOk (k_X11_readYarn_39 τ n x0 x1 x2 s0 G) (fun q => q = (r, G')))  : W p l e rm_X11_readYarn s m args below meth c H locs 0 0 (MQ below (gQ X τ (some (.int r)) G') args s 0 0 (gFree X)) (F0 m 39 ls [.int s0]) := by
  unfold k_X11_readYarn_39 at hok
  refine lv_istore_n (lv' := [(3, .int s0), (0, .ref x0), (1, .int x1), (2, .int x2)]) fx.1 fx.2.1 dX11_readYarn_39 rfl hl (by decide) rfl (fun ls hl => ?_)
  refine lv_iload_n fx.1 fx.2.1 dX11_readYarn_40 rfl (lv_at hl 0 rfl) ?_
  refine g_if_ge (tgt := 48) fx dX11_readYarn_41 (by decide) hok (fun hok => ?_) (fun hok => ?_)
  · refine lv_aload_n fx.1 fx.2.1 dX11_readYarn_48 rfl (lv_at hl 1 rfl) ?_
    refine g_ldcS fx hS gt_RX11_124 dX11_readYarn_49 (fun w7 h_w7 => ?_)
    refine lv_iconst (v := 0) fx.1 fx.2.1 dX11_readYarn_51 (by decide) ?_
    refine lv_bipush (v := 9) fx.1 fx.2.1 dX11_readYarn_52 (by decide) ?_
    obtain ⟨v8, G9, hf, hok⟩ := gOk_bind2 hok
    refine g_callV0 (κ := 11) fx hw (c_X11_after l X τ n hS x0 s_rot (0 : Int32) (9 : Int32) G h0 h_w7 hf) lv_RX11_120 ⟨rfl, rfl⟩ rfl rfl h0 rfl hl.1 rfl ⟨Nat.le_of_ble_eq_true rfl, Nat.le_of_ble_eq_true rfl⟩ (Nat.le_of_ble_eq_true rfl) ⟨Nat.le_of_ble_eq_true rfl, Nat.le_of_ble_eq_true rfl⟩ dX11_readYarn_54 (fun H locs hw => ?_)
    exact w_X11_readYarn_57 fx hS n x0 x1 x2 s0 v8 h0  hr hw (lv_sub hl [1, 2, 3, 0] rfl) hok
  · refine lv_iconst (v := (-1)) fx.1 fx.2.1 dX11_readYarn_44 (by decide) ?_
    refine lv_goto (tgt := 57) fx.1 fx.2.1 dX11_readYarn_45 (by decide) ?_
    exact w_X11_readYarn_57 fx hS n x0 x1 x2 s0 (-1 : Int32) h0  hr hw (lv_sub hl [1, 2, 3, 0] rfl) hok
set_option maxHeartbeats 4000000 in
set_option maxRecDepth 100000 in
theorem c_X11_readYarn (l : Launch) (X : gX) (τ : gτ) (n : Nat) (hS : gS0 l X) (x0 : Nat) (G : gG) (h0 : gK τ x0 11) {r : Int32} {G' : gG} (h : f_X11_readYarn τ n x0 G = some (r, G')) : gM l X τ yX11_readYarn cX11_readYarn 6 (some .boolean) rm_X11_readYarn [.ref x0] G (some (.int r)) G' := by
  refine g_body (by decide +kernel) (Nat.le_of_ble_eq_true rfl) ?_
  intro p e s m args below meth c ls fx hr hw hl
  have fx : gFx X p s m args meth c cX11_readYarn 6 RX11 := fx
  have hl : lv_has ls 6 [(0, .ref x0)] := hl
  have hok : gOk (f_X11_readYarn τ n x0 G) (fun q => q = (r, G')) := ⟨_, h, rfl⟩
  unfold f_X11_readYarn at hok
  show W p l e rm_X11_readYarn s m args below meth c s.heap [] 0 0 (MQ below (gQ X τ (some (.int r)) G') args s 0 0 (gFree X)) _
  refine lv_aload_n fx.1 fx.2.1 dX11_readYarn_0 rfl (lv_at hl 0 rfl) ?_
  obtain ⟨v1, hf, hok⟩ := gOk_bind hok
  refine g_callV0 (κ := 11) fx hw (c_X11_yarns l X τ x0 G h0 hf) lv_RX11_65 ⟨rfl, rfl⟩ rfl rfl h0 rfl hl.1 rfl ⟨Nat.le_of_ble_eq_true rfl, Nat.le_of_ble_eq_true rfl⟩ (Nat.le_of_ble_eq_true rfl) ⟨Nat.le_of_ble_eq_true rfl, Nat.le_of_ble_eq_true rfl⟩ dX11_readYarn_1 (fun H locs hw => ?_)
  refine lv_istore_n (lv' := [(1, .int v1), (0, .ref x0)]) fx.1 fx.2.1 dX11_readYarn_4 rfl hl (by decide) rfl (fun ls hl => ?_)
  refine lv_iload_n fx.1 fx.2.1 dX11_readYarn_5 rfl (lv_at hl 0 rfl) ?_
  refine lv_bipush (v := 10) fx.1 fx.2.1 dX11_readYarn_6 (by decide) ?_
  refine g_icmp_ne (tgt := 13) fx dX11_readYarn_8 (by decide) hok (fun hok => ?_) (fun hok => ?_)
  · refine lv_iconst (v := 0) fx.1 fx.2.1 dX11_readYarn_11 (by decide) ?_
    cases gOk_some hok
    exact g_zret fx hw hr (by decide) dX11_readYarn_12
  · refine lv_aload_n fx.1 fx.2.1 dX11_readYarn_13 rfl (lv_at hl 1 rfl) ?_
    refine lv_iconst (v := 1) fx.1 fx.2.1 dX11_readYarn_14 (by decide) ?_
    refine lv_bipush (v := 30) fx.1 fx.2.1 dX11_readYarn_15 (by decide) ?_
    obtain ⟨v2, G3, hf, hok⟩ := gOk_bind2 hok
    refine g_callV0 (κ := 11) fx hw (c_X11_number l X τ n x0 (1 : Int32) (30 : Int32) G h0 hf) lv_RX11_115 ⟨rfl, rfl⟩ rfl rfl h0 rfl hl.1 rfl ⟨Nat.le_of_ble_eq_true rfl, Nat.le_of_ble_eq_true rfl⟩ (Nat.le_of_ble_eq_true rfl) ⟨Nat.le_of_ble_eq_true rfl, Nat.le_of_ble_eq_true rfl⟩ dX11_readYarn_17 (fun H locs hw => ?_)
    refine lv_istore_n (lv' := [(2, .int v2), (1, .int v1), (0, .ref x0)]) fx.1 fx.2.1 dX11_readYarn_20 rfl hl (by decide) rfl (fun ls hl => ?_)
    refine lv_iload_n fx.1 fx.2.1 dX11_readYarn_21 rfl (lv_at hl 0 rfl) ?_
    refine g_if_ge (tgt := 29) fx dX11_readYarn_22 (by decide) hok (fun hok => ?_) (fun hok => ?_)
    · refine lv_aload_n fx.1 fx.2.1 dX11_readYarn_29 rfl (lv_at hl 2 rfl) ?_
      refine g_ldcS fx hS gt_RX11_118 dX11_readYarn_30 (fun w4 h_w4 => ?_)
      refine lv_iconst (v := 0) fx.1 fx.2.1 dX11_readYarn_32 (by decide) ?_
      refine lv_sipush (v := 200) fx.1 fx.2.1 dX11_readYarn_33 (by decide) ?_
      obtain ⟨v5, G6, hf, hok⟩ := gOk_bind2 hok
      refine g_callV0 (κ := 11) fx hw (c_X11_after l X τ n hS x0 s_long (0 : Int32) (200 : Int32) G3 h0 h_w4 hf) lv_RX11_120 ⟨rfl, rfl⟩ rfl rfl h0 rfl hl.1 rfl ⟨Nat.le_of_ble_eq_true rfl, Nat.le_of_ble_eq_true rfl⟩ (Nat.le_of_ble_eq_true rfl) ⟨Nat.le_of_ble_eq_true rfl, Nat.le_of_ble_eq_true rfl⟩ dX11_readYarn_36 (fun H locs hw => ?_)
      exact w_X11_readYarn_39 fx hS n x0 v1 v2 v5 h0  hr hw (lv_sub hl [2, 1, 0] rfl) hok
    · refine lv_iconst (v := (-1)) fx.1 fx.2.1 dX11_readYarn_25 (by decide) ?_
      refine lv_goto (tgt := 39) fx.1 fx.2.1 dX11_readYarn_26 (by decide) ?_
      exact w_X11_readYarn_39 fx hS n x0 v1 v2 (-1 : Int32) h0  hr hw (lv_sub hl [2, 1, 0] rfl) hok
