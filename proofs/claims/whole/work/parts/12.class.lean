theorem dX7_beginText_0 : decode cX7_beginText 0 = .ok (.aload_n 0, 1) := by decide +kernel
theorem dX7_beginText_1 : decode cX7_beginText 1 = .ok (.iconst (-1), 1) := by decide +kernel
theorem dX7_beginText_2 : decode cX7_beginText 2 = .ok (.putfield 15, 3) := by decide +kernel
theorem dX7_beginText_5 : decode cX7_beginText 5 = .ok (.aload_n 0, 1) := by decide +kernel
theorem dX7_beginText_6 : decode cX7_beginText 6 = .ok (.iconst 0, 1) := by decide +kernel
theorem dX7_beginText_7 : decode cX7_beginText 7 = .ok (.putfield 22, 3) := by decide +kernel
theorem dX7_beginText_10 : decode cX7_beginText 10 = .ok (.aload_n 0, 1) := by decide +kernel
theorem dX7_beginText_11 : decode cX7_beginText 11 = .ok (.iconst 0, 1) := by decide +kernel
theorem dX7_beginText_12 : decode cX7_beginText 12 = .ok (.putfield 25, 3) := by decide +kernel
theorem dX7_beginText_15 : decode cX7_beginText 15 = .ok (.aload_n 0, 1) := by decide +kernel
theorem dX7_beginText_16 : decode cX7_beginText 16 = .ok (.invokevirtual 28, 3) := by decide +kernel
theorem dX7_beginText_19 : decode cX7_beginText 19 = .ok (.return_, 1) := by decide +kernel
theorem lp_RX7_15 : gLp RX7 15 7 2 := ⟨(RX7, TX7, 6), rfl, by decide, wA_t (wt1 (List.mem_of_getElem? (i := 45) (by decide +kernel))) (by decide +kernel), rfl, rfl⟩
theorem lv_RX7_28 : gLv RX7 28 RX7 yX7_advance cX7_advance 2 none 0 := gLv_of (wA_t (wt3 (List.mem_of_getElem? (i := 157) (by decide +kernel))) (by decide +kernel)) (wA_t (wt3 (List.mem_of_getElem? (i := 159) (by decide +kernel))) (by decide +kernel)) (wA_of (List.mem_append_left _ (List.mem_map.mpr ⟨(⟨"YearRope$Tape", "advance", "()V"⟩, 6), wp1 (List.mem_of_getElem? (i := 8) (by decide +kernel)), rfl⟩)) (by decide +kernel)) (wA_t (wt1 (List.mem_of_getElem? (i := 2) (by decide +kernel))) (by decide +kernel)) (wA_t (wt3 (List.mem_of_getElem? (i := 160) (by decide +kernel))) (by decide +kernel)) ⟨rfl, by decide +kernel, by decide +kernel, by decide +kernel⟩
def rm_X7_beginText : Room := { frames := 1, cells := 0, slots := 0, locals := 21 }
def f_X7_beginText (τ : gτ) (n : Nat) (x0 : Nat) (G : gG) : Option (gG) :=
  gLet (gsi G 7 2 x0 (-1 : Int32)) fun G1 =>
  gLet (gsi G1 7 3 x0 (0 : Int32)) fun G2 =>
  gLet (gsi G2 7 4 x0 (0 : Int32)) fun G3 =>
  (f_X7_advance τ n x0 G3).bind fun G4 =>
  some G4
set_option maxHeartbeats 4000000 in
set_option maxRecDepth 100000 in
theorem c_X7_beginText (l : Launch) (X : gX) (τ : gτ) (n : Nat) (x0 : Nat) (G : gG) (h0 : gK τ x0 7) {G' : gG} (h : f_X7_beginText τ n x0 G = some G') : gM l X τ yX7_beginText cX7_beginText 1 none rm_X7_beginText [.ref x0] G none G' := by
  refine g_body (by decide +kernel) (Nat.le_of_ble_eq_true rfl) ?_
  intro p e s m args below meth c ls fx hr hw hl
  have fx : gFx X p s m args meth c cX7_beginText 1 RX7 := fx
  have hl : lv_has ls 1 [(0, .ref x0)] := hl
  have hok : gOk (f_X7_beginText τ n x0 G) (fun q => q = G') := ⟨_, h, rfl⟩
  unfold f_X7_beginText at hok
  show W p l e rm_X7_beginText s m args below meth c s.heap [] 0 0 (MQ below (gQ X τ none G') args s 0 0 (gFree X)) _
  refine lv_aload_n fx.1 fx.2.1 dX7_beginText_0 rfl (lv_at hl 0 rfl) ?_
  refine lv_iconst (v := (-1)) fx.1 fx.2.1 dX7_beginText_1 (by decide) ?_
  refine g_puti fx hw h0 lp_RX7_15 rfl rfl dX7_beginText_2 hok (fun G1 H locs hw hok => ?_)
  refine lv_aload_n fx.1 fx.2.1 dX7_beginText_5 rfl (lv_at hl 0 rfl) ?_
  refine lv_iconst (v := 0) fx.1 fx.2.1 dX7_beginText_6 (by decide) ?_
  refine g_puti fx hw h0 lp_RX7_22 rfl rfl dX7_beginText_7 hok (fun G2 H locs hw hok => ?_)
  refine lv_aload_n fx.1 fx.2.1 dX7_beginText_10 rfl (lv_at hl 0 rfl) ?_
  refine lv_iconst (v := 0) fx.1 fx.2.1 dX7_beginText_11 (by decide) ?_
  refine g_puti fx hw h0 lp_RX7_25 rfl rfl dX7_beginText_12 hok (fun G3 H locs hw hok => ?_)
  refine lv_aload_n fx.1 fx.2.1 dX7_beginText_15 rfl (lv_at hl 0 rfl) ?_
  obtain ⟨G4, hf, hok⟩ := gOk_bind hok
  refine g_callV0 (κ := 7) fx hw (c_X7_advance l X τ n x0 G3 h0 hf) lv_RX7_28 ⟨rfl, rfl⟩ rfl rfl h0 rfl hl.1 rfl ⟨Nat.le_of_ble_eq_true rfl, Nat.le_of_ble_eq_true rfl⟩ (Nat.le_of_ble_eq_true rfl) ⟨Nat.le_of_ble_eq_true rfl, Nat.le_of_ble_eq_true rfl⟩ dX7_beginText_16 (fun H locs hw => ?_)
  cases gOk_some hok
  exact g_vret fx hw hr dX7_beginText_19
theorem dX7_isAtEnd_0 : decode cX7_isAtEnd 0 = .ok (.aload_n 0, 1) := by decide +kernel
theorem dX7_isAtEnd_1 : decode cX7_isAtEnd 1 = .ok (.getfield 22, 3) := by decide +kernel
theorem dX7_isAtEnd_4 : decode cX7_isAtEnd 4 = .ok (.aload_n 0, 1) := by decide +kernel
theorem dX7_isAtEnd_5 : decode cX7_isAtEnd 5 = .ok (.getfield 19, 3) := by decide +kernel
theorem dX7_isAtEnd_8 : decode cX7_isAtEnd 8 = .ok (.if_icmp .lt 7, 3) := by decide +kernel
theorem dX7_isAtEnd_11 : decode cX7_isAtEnd 11 = .ok (.iconst 1, 1) := by decide +kernel
theorem dX7_isAtEnd_12 : decode cX7_isAtEnd 12 = .ok (.goto 4, 3) := by decide +kernel
theorem dX7_isAtEnd_15 : decode cX7_isAtEnd 15 = .ok (.iconst 0, 1) := by decide +kernel
theorem dX7_isAtEnd_16 : decode cX7_isAtEnd 16 = .ok (.ireturn, 1) := by decide +kernel
def rm_X7_isAtEnd : Room := { frames := 0, cells := 0, slots := 0, locals := 0 }
def f_X7_isAtEnd (x0 : Nat) (G : gG) : Option (Int32) :=
  if (gi G 7 3 x0) < (gi G 7 1 x0) then (some (0))
  else (some (1))
set_option maxHeartbeats 4000000 in
set_option maxRecDepth 100000 in
theorem c_X7_isAtEnd (l : Launch) (X : gX) (τ : gτ) (x0 : Nat) (G : gG) (h0 : gK τ x0 7) {r : Int32}  (h : f_X7_isAtEnd x0 G = some r) : gM l X τ yX7_isAtEnd cX7_isAtEnd 1 (some .boolean) rm_X7_isAtEnd [.ref x0] G (some (.int r)) G := by
  refine g_body (by decide +kernel) (Nat.le_of_ble_eq_true rfl) ?_
  intro p e s m args below meth c ls fx hr hw hl
  have fx : gFx X p s m args meth c cX7_isAtEnd 1 RX7 := fx
  have hl : lv_has ls 1 [(0, .ref x0)] := hl
  have hok : gOk (f_X7_isAtEnd x0 G) (fun q => q = r) := ⟨_, h, rfl⟩
  unfold f_X7_isAtEnd at hok
  show W p l e rm_X7_isAtEnd s m args below meth c s.heap [] 0 0 (MQ below (gQ X τ (some (.int r)) G) args s 0 0 (gFree X)) _
  refine lv_aload_n fx.1 fx.2.1 dX7_isAtEnd_0 rfl (lv_at hl 0 rfl) ?_
  refine g_geti fx hw h0 lf_RX7_22 rfl dX7_isAtEnd_1 ?_
  refine lv_aload_n fx.1 fx.2.1 dX7_isAtEnd_4 rfl (lv_at hl 0 rfl) ?_
  refine g_geti fx hw h0 lf_RX7_19 rfl dX7_isAtEnd_5 ?_
  refine g_icmp_lt (tgt := 15) fx dX7_isAtEnd_8 (by decide) hok (fun hok => ?_) (fun hok => ?_)
  · refine lv_iconst (v := 0) fx.1 fx.2.1 dX7_isAtEnd_15 (by decide) ?_
    cases gOk_some hok
    exact g_zret fx hw hr (by decide) dX7_isAtEnd_16
  · refine lv_iconst (v := 1) fx.1 fx.2.1 dX7_isAtEnd_11 (by decide) ?_
    refine lv_goto (tgt := 16) fx.1 fx.2.1 dX7_isAtEnd_12 (by decide) ?_
    cases gOk_some hok
    exact g_zret fx hw hr (by decide) dX7_isAtEnd_16
theorem dX7_refuse_0 : decode cX7_refuse 0 = .ok (.aload_n 0, 1) := by decide +kernel
theorem dX7_refuse_1 : decode cX7_refuse 1 = .ok (.getfield 15, 3) := by decide +kernel
theorem dX7_refuse_4 : decode cX7_refuse 4 = .ok (.iconst (-1), 1) := by decide +kernel
theorem dX7_refuse_5 : decode cX7_refuse 5 = .ok (.if_icmp .ne 11, 3) := by decide +kernel
theorem dX7_refuse_8 : decode cX7_refuse 8 = .ok (.aload_n 0, 1) := by decide +kernel
theorem dX7_refuse_9 : decode cX7_refuse 9 = .ok (.aload_n 0, 1) := by decide +kernel
theorem dX7_refuse_10 : decode cX7_refuse 10 = .ok (.getfield 22, 3) := by decide +kernel
theorem dX7_refuse_13 : decode cX7_refuse 13 = .ok (.putfield 15, 3) := by decide +kernel
theorem dX7_refuse_16 : decode cX7_refuse 16 = .ok (.return_, 1) := by decide +kernel
theorem lf_RX7_15 : gLf RX7 15 7 2 := ⟨(RX7, TX7, 6), rfl, by decide, wA_t (wt1 (List.mem_of_getElem? (i := 45) (by decide +kernel))) (by decide +kernel), rfl⟩
def rm_X7_refuse : Room := { frames := 0, cells := 0, slots := 0, locals := 0 }
def f_X7_refuse (x0 : Nat) (G : gG) : Option (gG) :=
  if (gi G 7 2 x0) = (-1 : Int32) then (gLet (gsi G 7 2 x0 (gi G 7 3 x0)) fun G1 =>
  some G1)
  else (some G)
set_option maxHeartbeats 4000000 in
set_option maxRecDepth 100000 in
theorem c_X7_refuse (l : Launch) (X : gX) (τ : gτ) (x0 : Nat) (G : gG) (h0 : gK τ x0 7) {G' : gG} (h : f_X7_refuse x0 G = some G') : gM l X τ yX7_refuse cX7_refuse 1 none rm_X7_refuse [.ref x0] G none G' := by
  refine g_body (by decide +kernel) (Nat.le_of_ble_eq_true rfl) ?_
  intro p e s m args below meth c ls fx hr hw hl
  have fx : gFx X p s m args meth c cX7_refuse 1 RX7 := fx
  have hl : lv_has ls 1 [(0, .ref x0)] := hl
  have hok : gOk (f_X7_refuse x0 G) (fun q => q = G') := ⟨_, h, rfl⟩
  unfold f_X7_refuse at hok
  show W p l e rm_X7_refuse s m args below meth c s.heap [] 0 0 (MQ below (gQ X τ none G') args s 0 0 (gFree X)) _
  refine lv_aload_n fx.1 fx.2.1 dX7_refuse_0 rfl (lv_at hl 0 rfl) ?_
  refine g_geti fx hw h0 lf_RX7_15 rfl dX7_refuse_1 ?_
  refine lv_iconst (v := (-1)) fx.1 fx.2.1 dX7_refuse_4 (by decide) ?_
  refine g_icmp_ne (tgt := 16) fx dX7_refuse_5 (by decide) hok (fun hok => ?_) (fun hok => ?_)
  · refine lv_aload_n fx.1 fx.2.1 dX7_refuse_8 rfl (lv_at hl 0 rfl) ?_
    refine lv_aload_n fx.1 fx.2.1 dX7_refuse_9 rfl (lv_at hl 0 rfl) ?_
    refine g_geti fx hw h0 lf_RX7_22 rfl dX7_refuse_10 ?_
    refine g_puti fx hw h0 lp_RX7_15 rfl rfl dX7_refuse_13 hok (fun G1 H locs hw hok => ?_)
    cases gOk_some hok
    exact g_vret fx hw hr dX7_refuse_16
  · cases gOk_some hok
    exact g_vret fx hw hr dX7_refuse_16
theorem dX7_takeNumber_0 : decode cX7_takeNumber 0 = .ok (.aload_n 0, 1) := by decide +kernel
theorem dX7_takeNumber_1 : decode cX7_takeNumber 1 = .ok (.getfield 15, 3) := by decide +kernel
theorem dX7_takeNumber_4 : decode cX7_takeNumber 4 = .ok (.iconst (-1), 1) := by decide +kernel
theorem dX7_takeNumber_5 : decode cX7_takeNumber 5 = .ok (.if_icmp .ne 19, 3) := by decide +kernel
theorem dX7_takeNumber_8 : decode cX7_takeNumber 8 = .ok (.aload_n 0, 1) := by decide +kernel
theorem dX7_takeNumber_9 : decode cX7_takeNumber 9 = .ok (.getfield 31, 3) := by decide +kernel
theorem dX7_takeNumber_12 : decode cX7_takeNumber 12 = .ok (.iload_n 1, 1) := by decide +kernel
theorem dX7_takeNumber_13 : decode cX7_takeNumber 13 = .ok (.if_icmp .lt 11, 3) := by decide +kernel
theorem dX7_takeNumber_16 : decode cX7_takeNumber 16 = .ok (.aload_n 0, 1) := by decide +kernel
theorem dX7_takeNumber_17 : decode cX7_takeNumber 17 = .ok (.getfield 31, 3) := by decide +kernel
theorem dX7_takeNumber_20 : decode cX7_takeNumber 20 = .ok (.iload_n 2, 1) := by decide +kernel
theorem dX7_takeNumber_21 : decode cX7_takeNumber 21 = .ok (.if_icmp .le 9, 3) := by decide +kernel
theorem dX7_takeNumber_24 : decode cX7_takeNumber 24 = .ok (.aload_n 0, 1) := by decide +kernel
theorem dX7_takeNumber_25 : decode cX7_takeNumber 25 = .ok (.invokevirtual 47, 3) := by decide +kernel
theorem dX7_takeNumber_28 : decode cX7_takeNumber 28 = .ok (.iconst (-1), 1) := by decide +kernel
theorem dX7_takeNumber_29 : decode cX7_takeNumber 29 = .ok (.ireturn, 1) := by decide +kernel
theorem dX7_takeNumber_30 : decode cX7_takeNumber 30 = .ok (.aload_n 0, 1) := by decide +kernel
theorem dX7_takeNumber_31 : decode cX7_takeNumber 31 = .ok (.getfield 31, 3) := by decide +kernel
theorem dX7_takeNumber_34 : decode cX7_takeNumber 34 = .ok (.istore_n 3, 1) := by decide +kernel
theorem dX7_takeNumber_35 : decode cX7_takeNumber 35 = .ok (.aload_n 0, 1) := by decide +kernel
theorem dX7_takeNumber_36 : decode cX7_takeNumber 36 = .ok (.invokevirtual 28, 3) := by decide +kernel
theorem dX7_takeNumber_39 : decode cX7_takeNumber 39 = .ok (.iload_n 3, 1) := by decide +kernel
theorem dX7_takeNumber_40 : decode cX7_takeNumber 40 = .ok (.ireturn, 1) := by decide +kernel
theorem lv_RX7_47 : gLv RX7 47 RX7 yX7_refuse cX7_refuse 1 none 0 := gLv_of (wA_t (wt3 (List.mem_of_getElem? (i := 230) (by decide +kernel))) (by decide +kernel)) (wA_t (wt3 (List.mem_of_getElem? (i := 231) (by decide +kernel))) (by decide +kernel)) (wA_t (wt3 (List.mem_of_getElem? (i := 232) (by decide +kernel))) (by decide +kernel)) (wA_t (wt1 (List.mem_of_getElem? (i := 2) (by decide +kernel))) (by decide +kernel)) (wA_t (wt3 (List.mem_of_getElem? (i := 233) (by decide +kernel))) (by decide +kernel)) ⟨rfl, by decide +kernel, by decide +kernel, by decide +kernel⟩
def rm_X7_takeNumber : Room := { frames := 1, cells := 0, slots := 0, locals := 21 }
def k_X7_takeNumber_24 (τ : gτ) (n : Nat) (x0 : Nat)  (G : gG) : Option (Int32 × gG) :=
  (f_X7_refuse x0 G).bind fun G1 =>
  some ((-1), G1)
def f_X7_takeNumber (τ : gτ) (n : Nat) (x0 : Nat) (x1 : Int32) (x2 : Int32) (G : gG) : Option (Int32 × gG) :=
  if (gi G 7 2 x0) = (-1 : Int32) then (if (gi G 7 5 x0) < x1 then (k_X7_takeNumber_24 τ n x0  G)
  else (if (gi G 7 5 x0) ≤ x2 then (gLet (gi G 7 5 x0) fun v2 =>
  (f_X7_advance τ n x0 G).bind fun G3 =>
  some (v2, G3))
  else (k_X7_takeNumber_24 τ n x0  G)))
  else (k_X7_takeNumber_24 τ n x0  G)
set_option maxHeartbeats 4000000 in
set_option maxRecDepth 100000 in
theorem w_X7_takeNumber_24 {X : gX} {τ : gτ} {p : Program} {l : Launch} {e : Env} {s : State} {m : MethodId} {args : Array Value} {below : List Frame} {meth : Method} {c : Code} (fx : gFx X p s m args meth c cX7_takeNumber 4 RX7) (n : Nat) (x0 : Nat)  (h0 : gK τ x0 7)  (hr : meth.sig.returnType = (some .int)) {r : Int32} {G' : gG} {G : gG} {H : Heap} {locs : List Loc} {ls : Array Slot} (hw : gHw X τ G H locs) (hl : lv_has ls 4 [(0, .ref x0)]) (hok : gOk (k_X7_takeNumber_24 τ n x0  G) (fun q => q = (r, G')))  : W p l e rm_X7_takeNumber s m args below meth c H locs 0 0 (MQ below (gQ X τ (some (.int r)) G') args s 0 0 (gFree X)) (F0 m 24 ls []) := by
  unfold k_X7_takeNumber_24 at hok
  refine lv_aload_n fx.1 fx.2.1 dX7_takeNumber_24 rfl (lv_at hl 0 rfl) ?_
  obtain ⟨G1, hf, hok⟩ := gOk_bind hok
  refine g_callV0 (κ := 7) fx hw (c_X7_refuse l X τ x0 G h0 hf) lv_RX7_47 ⟨rfl, rfl⟩ rfl rfl h0 rfl hl.1 rfl ⟨Nat.le_of_ble_eq_true rfl, Nat.le_of_ble_eq_true rfl⟩ (Nat.le_of_ble_eq_true rfl) ⟨Nat.le_of_ble_eq_true rfl, Nat.le_of_ble_eq_true rfl⟩ dX7_takeNumber_25 (fun H locs hw => ?_)
  refine lv_iconst (v := (-1)) fx.1 fx.2.1 dX7_takeNumber_28 (by decide) ?_
  cases gOk_some hok
  exact g_iret fx hw hr dX7_takeNumber_29
set_option maxHeartbeats 4000000 in
set_option maxRecDepth 100000 in
theorem c_X7_takeNumber (l : Launch) (X : gX) (τ : gτ) (n : Nat) (x0 : Nat) (x1 : Int32) (x2 : Int32) (G : gG) (h0 : gK τ x0 7) {r : Int32} {G' : gG} (h : f_X7_takeNumber τ n x0 x1 x2 G = some (r, G')) : gM l X τ yX7_takeNumber cX7_takeNumber 4 (some .int) rm_X7_takeNumber [.ref x0, .int x1, .int x2] G (some (.int r)) G' := by
  refine g_body (by decide +kernel) (Nat.le_of_ble_eq_true rfl) ?_
  intro p e s m args below meth c ls fx hr hw hl
  have fx : gFx X p s m args meth c cX7_takeNumber 4 RX7 := fx
  have hl : lv_has ls 4 [(0, .ref x0), (1, .int x1), (2, .int x2)] := hl
  have hok : gOk (f_X7_takeNumber τ n x0 x1 x2 G) (fun q => q = (r, G')) := ⟨_, h, rfl⟩
  unfold f_X7_takeNumber at hok
  show W p l e rm_X7_takeNumber s m args below meth c s.heap [] 0 0 (MQ below (gQ X τ (some (.int r)) G') args s 0 0 (gFree X)) _
  refine lv_aload_n fx.1 fx.2.1 dX7_takeNumber_0 rfl (lv_at hl 0 rfl) ?_
  refine g_geti fx hw h0 lf_RX7_15 rfl dX7_takeNumber_1 ?_
  refine lv_iconst (v := (-1)) fx.1 fx.2.1 dX7_takeNumber_4 (by decide) ?_
  refine g_icmp_ne (tgt := 24) fx dX7_takeNumber_5 (by decide) hok (fun hok => ?_) (fun hok => ?_)
  · refine lv_aload_n fx.1 fx.2.1 dX7_takeNumber_8 rfl (lv_at hl 0 rfl) ?_
    refine g_geti fx hw h0 lf_RX7_31 rfl dX7_takeNumber_9 ?_
    refine lv_iload_n fx.1 fx.2.1 dX7_takeNumber_12 rfl (lv_at hl 1 rfl) ?_
    refine g_icmp_lt (tgt := 24) fx dX7_takeNumber_13 (by decide) hok (fun hok => ?_) (fun hok => ?_)
    · exact w_X7_takeNumber_24 fx n x0  h0  hr hw (lv_sub hl [0] rfl) hok
    · refine lv_aload_n fx.1 fx.2.1 dX7_takeNumber_16 rfl (lv_at hl 0 rfl) ?_
      refine g_geti fx hw h0 lf_RX7_31 rfl dX7_takeNumber_17 ?_
      refine lv_iload_n fx.1 fx.2.1 dX7_takeNumber_20 rfl (lv_at hl 2 rfl) ?_
      refine g_icmp_le (tgt := 30) fx dX7_takeNumber_21 (by decide) hok (fun hok => ?_) (fun hok => ?_)
      · refine lv_aload_n fx.1 fx.2.1 dX7_takeNumber_30 rfl (lv_at hl 0 rfl) ?_
        refine g_geti fx hw h0 lf_RX7_31 rfl dX7_takeNumber_31 ?_
        refine g_leti hok (fun v2 hok => ?_)
        refine lv_istore_n (lv' := [(3, .int v2), (0, .ref x0), (1, .int x1), (2, .int x2)]) fx.1 fx.2.1 dX7_takeNumber_34 rfl hl (by decide) rfl (fun ls hl => ?_)
        refine lv_aload_n fx.1 fx.2.1 dX7_takeNumber_35 rfl (lv_at hl 1 rfl) ?_
        obtain ⟨G3, hf, hok⟩ := gOk_bind hok
        refine g_callV0 (κ := 7) fx hw (c_X7_advance l X τ n x0 G h0 hf) lv_RX7_28 ⟨rfl, rfl⟩ rfl rfl h0 rfl hl.1 rfl ⟨Nat.le_of_ble_eq_true rfl, Nat.le_of_ble_eq_true rfl⟩ (Nat.le_of_ble_eq_true rfl) ⟨Nat.le_of_ble_eq_true rfl, Nat.le_of_ble_eq_true rfl⟩ dX7_takeNumber_36 (fun H locs hw => ?_)
        refine lv_iload_n fx.1 fx.2.1 dX7_takeNumber_39 rfl (lv_at hl 0 rfl) ?_
        cases gOk_some hok
        exact g_iret fx hw hr dX7_takeNumber_40
      · exact w_X7_takeNumber_24 fx n x0  h0  hr hw (lv_sub hl [0] rfl) hok
  · exact w_X7_takeNumber_24 fx n x0  h0  hr hw (lv_sub hl [0] rfl) hok
theorem dX7_takeSign_0 : decode cX7_takeSign 0 = .ok (.aload_n 0, 1) := by decide +kernel
theorem dX7_takeSign_1 : decode cX7_takeSign 1 = .ok (.getfield 15, 3) := by decide +kernel
theorem dX7_takeSign_4 : decode cX7_takeSign 4 = .ok (.iconst (-1), 1) := by decide +kernel
theorem dX7_takeSign_5 : decode cX7_takeSign 5 = .ok (.if_icmp .ne 24, 3) := by decide +kernel
theorem dX7_takeSign_8 : decode cX7_takeSign 8 = .ok (.aload_n 0, 1) := by decide +kernel
theorem dX7_takeSign_9 : decode cX7_takeSign 9 = .ok (.getfield 25, 3) := by decide +kernel
theorem dX7_takeSign_12 : decode cX7_takeSign 12 = .ok (.iconst 1, 1) := by decide +kernel
theorem dX7_takeSign_13 : decode cX7_takeSign 13 = .ok (.if_icmp .ne 16, 3) := by decide +kernel
theorem dX7_takeSign_16 : decode cX7_takeSign 16 = .ok (.aload_n 0, 1) := by decide +kernel
theorem dX7_takeSign_17 : decode cX7_takeSign 17 = .ok (.getfield 9, 3) := by decide +kernel
theorem dX7_takeSign_20 : decode cX7_takeSign 20 = .ok (.aload_n 0, 1) := by decide +kernel
theorem dX7_takeSign_21 : decode cX7_takeSign 21 = .ok (.getfield 22, 3) := by decide +kernel
theorem dX7_takeSign_24 : decode cX7_takeSign 24 = .ok (.iaload, 1) := by decide +kernel
theorem dX7_takeSign_25 : decode cX7_takeSign 25 = .ok (.iload_n 1, 1) := by decide +kernel
theorem dX7_takeSign_26 : decode cX7_takeSign 26 = .ok (.if_icmp .eq 5, 3) := by decide +kernel
theorem dX7_takeSign_29 : decode cX7_takeSign 29 = .ok (.iconst 0, 1) := by decide +kernel
theorem dX7_takeSign_30 : decode cX7_takeSign 30 = .ok (.ireturn, 1) := by decide +kernel
theorem dX7_takeSign_31 : decode cX7_takeSign 31 = .ok (.aload_n 0, 1) := by decide +kernel
theorem dX7_takeSign_32 : decode cX7_takeSign 32 = .ok (.invokevirtual 28, 3) := by decide +kernel
theorem dX7_takeSign_35 : decode cX7_takeSign 35 = .ok (.iconst 1, 1) := by decide +kernel
theorem dX7_takeSign_36 : decode cX7_takeSign 36 = .ok (.ireturn, 1) := by decide +kernel
def rm_X7_takeSign : Room := { frames := 1, cells := 0, slots := 0, locals := 21 }
def f_X7_takeSign (τ : gτ) (n : Nat) (x0 : Nat) (x1 : Int32) (G : gG) : Option (Int32 × gG) :=
  if (gi G 7 2 x0) = (-1 : Int32) then (if (gi G 7 4 x0) = (1 : Int32) then ((gr G 7 0 x0).bind fun a1 =>
  gchk (gIn (gi G 7 3 x0) (gn τ a1)) <|
  if (ge G a1 (Int32.toNatClampNeg (gi G 7 3 x0))) = x1 then ((f_X7_advance τ n x0 G).bind fun G2 =>
  some (1, G2))
  else (some (0, G)))
  else (some (0, G)))
  else (some (0, G))
set_option maxHeartbeats 4000000 in
set_option maxRecDepth 100000 in
theorem c_X7_takeSign (l : Launch) (X : gX) (τ : gτ) (n : Nat) (x0 : Nat) (x1 : Int32) (G : gG) (h0 : gK τ x0 7) {r : Int32} {G' : gG} (h : f_X7_takeSign τ n x0 x1 G = some (r, G')) : gM l X τ yX7_takeSign cX7_takeSign 2 (some .boolean) rm_X7_takeSign [.ref x0, .int x1] G (some (.int r)) G' := by
  refine g_body (by decide +kernel) (Nat.le_of_ble_eq_true rfl) ?_
  intro p e s m args below meth c ls fx hr hw hl
  have fx : gFx X p s m args meth c cX7_takeSign 2 RX7 := fx
  have hl : lv_has ls 2 [(0, .ref x0), (1, .int x1)] := hl
  have hok : gOk (f_X7_takeSign τ n x0 x1 G) (fun q => q = (r, G')) := ⟨_, h, rfl⟩
  unfold f_X7_takeSign at hok
  show W p l e rm_X7_takeSign s m args below meth c s.heap [] 0 0 (MQ below (gQ X τ (some (.int r)) G') args s 0 0 (gFree X)) _
  refine lv_aload_n fx.1 fx.2.1 dX7_takeSign_0 rfl (lv_at hl 0 rfl) ?_
  refine g_geti fx hw h0 lf_RX7_15 rfl dX7_takeSign_1 ?_
  refine lv_iconst (v := (-1)) fx.1 fx.2.1 dX7_takeSign_4 (by decide) ?_
  refine g_icmp_ne (tgt := 29) fx dX7_takeSign_5 (by decide) hok (fun hok => ?_) (fun hok => ?_)
  · refine lv_aload_n fx.1 fx.2.1 dX7_takeSign_8 rfl (lv_at hl 0 rfl) ?_
    refine g_geti fx hw h0 lf_RX7_25 rfl dX7_takeSign_9 ?_
    refine lv_iconst (v := 1) fx.1 fx.2.1 dX7_takeSign_12 (by decide) ?_
    refine g_icmp_ne (tgt := 29) fx dX7_takeSign_13 (by decide) hok (fun hok => ?_) (fun hok => ?_)
    · refine lv_aload_n fx.1 fx.2.1 dX7_takeSign_16 rfl (lv_at hl 0 rfl) ?_
      refine g_getr fx hw h0 lf_RX7_9 rfl dX7_takeSign_17 hok (fun a1 h_a1 hok => ?_)
      refine lv_aload_n fx.1 fx.2.1 dX7_takeSign_20 rfl (lv_at hl 0 rfl) ?_
      refine g_geti fx hw h0 lf_RX7_22 rfl dX7_takeSign_21 ?_
      refine g_iald fx hw h_a1 dX7_takeSign_24 hok (fun hok => ?_)
      refine lv_iload_n fx.1 fx.2.1 dX7_takeSign_25 rfl (lv_at hl 1 rfl) ?_
      refine g_icmp_eq (tgt := 31) fx dX7_takeSign_26 (by decide) hok (fun hok => ?_) (fun hok => ?_)
      · refine lv_aload_n fx.1 fx.2.1 dX7_takeSign_31 rfl (lv_at hl 0 rfl) ?_
        obtain ⟨G2, hf, hok⟩ := gOk_bind hok
        refine g_callV0 (κ := 7) fx hw (c_X7_advance l X τ n x0 G h0 hf) lv_RX7_28 ⟨rfl, rfl⟩ rfl rfl h0 rfl hl.1 rfl ⟨Nat.le_of_ble_eq_true rfl, Nat.le_of_ble_eq_true rfl⟩ (Nat.le_of_ble_eq_true rfl) ⟨Nat.le_of_ble_eq_true rfl, Nat.le_of_ble_eq_true rfl⟩ dX7_takeSign_32 (fun H locs hw => ?_)
        refine lv_iconst (v := 1) fx.1 fx.2.1 dX7_takeSign_35 (by decide) ?_
        cases gOk_some hok
        exact g_zret fx hw hr (by decide) dX7_takeSign_36
      · refine lv_iconst (v := 0) fx.1 fx.2.1 dX7_takeSign_29 (by decide) ?_
        cases gOk_some hok
        exact g_zret fx hw hr (by decide) dX7_takeSign_30
    · refine lv_iconst (v := 0) fx.1 fx.2.1 dX7_takeSign_29 (by decide) ?_
      cases gOk_some hok
      exact g_zret fx hw hr (by decide) dX7_takeSign_30
  · refine lv_iconst (v := 0) fx.1 fx.2.1 dX7_takeSign_29 (by decide) ?_
    cases gOk_some hok
    exact g_zret fx hw hr (by decide) dX7_takeSign_30
theorem dX7_refuseAt_0 : decode cX7_refuseAt 0 = .ok (.aload_n 0, 1) := by decide +kernel
theorem dX7_refuseAt_1 : decode cX7_refuseAt 1 = .ok (.getfield 15, 3) := by decide +kernel
theorem dX7_refuseAt_4 : decode cX7_refuseAt 4 = .ok (.iconst (-1), 1) := by decide +kernel
theorem dX7_refuseAt_5 : decode cX7_refuseAt 5 = .ok (.if_icmp .ne 8, 3) := by decide +kernel
theorem dX7_refuseAt_8 : decode cX7_refuseAt 8 = .ok (.aload_n 0, 1) := by decide +kernel
theorem dX7_refuseAt_9 : decode cX7_refuseAt 9 = .ok (.iload_n 1, 1) := by decide +kernel
theorem dX7_refuseAt_10 : decode cX7_refuseAt 10 = .ok (.putfield 15, 3) := by decide +kernel
theorem dX7_refuseAt_13 : decode cX7_refuseAt 13 = .ok (.return_, 1) := by decide +kernel
def rm_X7_refuseAt : Room := { frames := 0, cells := 0, slots := 0, locals := 0 }
def f_X7_refuseAt (x0 : Nat) (x1 : Int32) (G : gG) : Option (gG) :=
  if (gi G 7 2 x0) = (-1 : Int32) then (gLet (gsi G 7 2 x0 x1) fun G1 =>
  some G1)
  else (some G)
set_option maxHeartbeats 4000000 in
set_option maxRecDepth 100000 in
theorem c_X7_refuseAt (l : Launch) (X : gX) (τ : gτ) (x0 : Nat) (x1 : Int32) (G : gG) (h0 : gK τ x0 7) {G' : gG} (h : f_X7_refuseAt x0 x1 G = some G') : gM l X τ yX7_refuseAt cX7_refuseAt 2 none rm_X7_refuseAt [.ref x0, .int x1] G none G' := by
  refine g_body (by decide +kernel) (Nat.le_of_ble_eq_true rfl) ?_
  intro p e s m args below meth c ls fx hr hw hl
  have fx : gFx X p s m args meth c cX7_refuseAt 2 RX7 := fx
  have hl : lv_has ls 2 [(0, .ref x0), (1, .int x1)] := hl
  have hok : gOk (f_X7_refuseAt x0 x1 G) (fun q => q = G') := ⟨_, h, rfl⟩
  unfold f_X7_refuseAt at hok
  show W p l e rm_X7_refuseAt s m args below meth c s.heap [] 0 0 (MQ below (gQ X τ none G') args s 0 0 (gFree X)) _
  refine lv_aload_n fx.1 fx.2.1 dX7_refuseAt_0 rfl (lv_at hl 0 rfl) ?_
  refine g_geti fx hw h0 lf_RX7_15 rfl dX7_refuseAt_1 ?_
  refine lv_iconst (v := (-1)) fx.1 fx.2.1 dX7_refuseAt_4 (by decide) ?_
  refine g_icmp_ne (tgt := 13) fx dX7_refuseAt_5 (by decide) hok (fun hok => ?_) (fun hok => ?_)
  · refine lv_aload_n fx.1 fx.2.1 dX7_refuseAt_8 rfl (lv_at hl 0 rfl) ?_
    refine lv_iload_n fx.1 fx.2.1 dX7_refuseAt_9 rfl (lv_at hl 1 rfl) ?_
    refine g_puti fx hw h0 lp_RX7_15 rfl rfl dX7_refuseAt_10 hok (fun G1 H locs hw hok => ?_)
    cases gOk_some hok
    exact g_vret fx hw hr dX7_refuseAt_13
  · cases gOk_some hok
    exact g_vret fx hw hr dX7_refuseAt_13
theorem dX7_needSign_0 : decode cX7_needSign 0 = .ok (.aload_n 0, 1) := by decide +kernel
theorem dX7_needSign_1 : decode cX7_needSign 1 = .ok (.iload_n 1, 1) := by decide +kernel
theorem dX7_needSign_2 : decode cX7_needSign 2 = .ok (.invokevirtual 50, 3) := by decide +kernel
theorem dX7_needSign_5 : decode cX7_needSign 5 = .ok (.ifCond .ne 7, 3) := by decide +kernel
theorem dX7_needSign_8 : decode cX7_needSign 8 = .ok (.aload_n 0, 1) := by decide +kernel
theorem dX7_needSign_9 : decode cX7_needSign 9 = .ok (.invokevirtual 47, 3) := by decide +kernel
theorem dX7_needSign_12 : decode cX7_needSign 12 = .ok (.return_, 1) := by decide +kernel
theorem lv_RX7_50 : gLv RX7 50 RX7 yX7_takeSign cX7_takeSign 2 (some .boolean) 1 := gLv_of (wA_t (wt4 (List.mem_of_getElem? (i := 66) (by decide +kernel))) (by decide +kernel)) (wA_t (wt4 (List.mem_of_getElem? (i := 67) (by decide +kernel))) (by decide +kernel)) (wA_t (wt4 (List.mem_of_getElem? (i := 68) (by decide +kernel))) (by decide +kernel)) (wA_t (wt1 (List.mem_of_getElem? (i := 2) (by decide +kernel))) (by decide +kernel)) (wA_t (wt4 (List.mem_of_getElem? (i := 69) (by decide +kernel))) (by decide +kernel)) ⟨rfl, by decide +kernel, by decide +kernel, by decide +kernel⟩
def rm_X7_needSign : Room := { frames := 2, cells := 0, slots := 0, locals := 42 }
def f_X7_needSign (τ : gτ) (n : Nat) (x0 : Nat) (x1 : Int32) (G : gG) : Option (gG) :=
  gBind2 (f_X7_takeSign τ n x0 x1 G) fun v1 G2 =>
  if v1 = 0 then ((f_X7_refuse x0 G2).bind fun G3 =>
  some G3)
  else (some G2)
set_option maxHeartbeats 4000000 in
set_option maxRecDepth 100000 in
theorem c_X7_needSign (l : Launch) (X : gX) (τ : gτ) (n : Nat) (x0 : Nat) (x1 : Int32) (G : gG) (h0 : gK τ x0 7) {G' : gG} (h : f_X7_needSign τ n x0 x1 G = some G') : gM l X τ yX7_needSign cX7_needSign 2 none rm_X7_needSign [.ref x0, .int x1] G none G' := by
  refine g_body (by decide +kernel) (Nat.le_of_ble_eq_true rfl) ?_
  intro p e s m args below meth c ls fx hr hw hl
  have fx : gFx X p s m args meth c cX7_needSign 2 RX7 := fx
  have hl : lv_has ls 2 [(0, .ref x0), (1, .int x1)] := hl
  have hok : gOk (f_X7_needSign τ n x0 x1 G) (fun q => q = G') := ⟨_, h, rfl⟩
  unfold f_X7_needSign at hok
  show W p l e rm_X7_needSign s m args below meth c s.heap [] 0 0 (MQ below (gQ X τ none G') args s 0 0 (gFree X)) _
  refine lv_aload_n fx.1 fx.2.1 dX7_needSign_0 rfl (lv_at hl 0 rfl) ?_
  refine lv_iload_n fx.1 fx.2.1 dX7_needSign_1 rfl (lv_at hl 1 rfl) ?_
  obtain ⟨v1, G2, hf, hok⟩ := gOk_bind2 hok
  refine g_callV0 (κ := 7) fx hw (c_X7_takeSign l X τ n x0 x1 G h0 hf) lv_RX7_50 ⟨rfl, rfl⟩ rfl rfl h0 rfl hl.1 rfl ⟨Nat.le_of_ble_eq_true rfl, Nat.le_of_ble_eq_true rfl⟩ (Nat.le_of_ble_eq_true rfl) ⟨Nat.le_of_ble_eq_true rfl, Nat.le_of_ble_eq_true rfl⟩ dX7_needSign_2 (fun H locs hw => ?_)
  refine g_if_ne (tgt := 12) fx dX7_needSign_5 (by decide) hok (fun hok => ?_) (fun hok => ?_)
  · refine lv_aload_n fx.1 fx.2.1 dX7_needSign_8 rfl (lv_at hl 0 rfl) ?_
    obtain ⟨G3, hf, hok⟩ := gOk_bind hok
    refine g_callV0 (κ := 7) fx hw (c_X7_refuse l X τ x0 G2 h0 hf) lv_RX7_47 ⟨rfl, rfl⟩ rfl rfl h0 rfl hl.1 rfl ⟨Nat.le_of_ble_eq_true rfl, Nat.le_of_ble_eq_true rfl⟩ (Nat.le_of_ble_eq_true rfl) ⟨Nat.le_of_ble_eq_true rfl, Nat.le_of_ble_eq_true rfl⟩ dX7_needSign_9 (fun H locs hw => ?_)
    cases gOk_some hok
    exact g_vret fx hw hr dX7_needSign_12
  · cases gOk_some hok
    exact g_vret fx hw hr dX7_needSign_12
theorem dX7_isRight_0 : decode cX7_isRight 0 = .ok (.aload_n 0, 1) := by decide +kernel
theorem dX7_isRight_1 : decode cX7_isRight 1 = .ok (.getfield 15, 3) := by decide +kernel
theorem dX7_isRight_4 : decode cX7_isRight 4 = .ok (.iconst (-1), 1) := by decide +kernel
theorem dX7_isRight_5 : decode cX7_isRight 5 = .ok (.if_icmp .ne 7, 3) := by decide +kernel
theorem dX7_isRight_8 : decode cX7_isRight 8 = .ok (.iconst 1, 1) := by decide +kernel
theorem dX7_isRight_9 : decode cX7_isRight 9 = .ok (.goto 4, 3) := by decide +kernel
theorem dX7_isRight_12 : decode cX7_isRight 12 = .ok (.iconst 0, 1) := by decide +kernel
theorem dX7_isRight_13 : decode cX7_isRight 13 = .ok (.ireturn, 1) := by decide +kernel
def rm_X7_isRight : Room := { frames := 0, cells := 0, slots := 0, locals := 0 }
def f_X7_isRight (x0 : Nat) (G : gG) : Option (Int32) :=
  if (gi G 7 2 x0) = (-1 : Int32) then (some (1))
  else (some (0))
set_option maxHeartbeats 4000000 in
set_option maxRecDepth 100000 in
theorem c_X7_isRight (l : Launch) (X : gX) (τ : gτ) (x0 : Nat) (G : gG) (h0 : gK τ x0 7) {r : Int32}  (h : f_X7_isRight x0 G = some r) : gM l X τ yX7_isRight cX7_isRight 1 (some .boolean) rm_X7_isRight [.ref x0] G (some (.int r)) G := by
  refine g_body (by decide +kernel) (Nat.le_of_ble_eq_true rfl) ?_
  intro p e s m args below meth c ls fx hr hw hl
  have fx : gFx X p s m args meth c cX7_isRight 1 RX7 := fx
  have hl : lv_has ls 1 [(0, .ref x0)] := hl
  have hok : gOk (f_X7_isRight x0 G) (fun q => q = r) := ⟨_, h, rfl⟩
  unfold f_X7_isRight at hok
  show W p l e rm_X7_isRight s m args below meth c s.heap [] 0 0 (MQ below (gQ X τ (some (.int r)) G) args s 0 0 (gFree X)) _
  refine lv_aload_n fx.1 fx.2.1 dX7_isRight_0 rfl (lv_at hl 0 rfl) ?_
  refine g_geti fx hw h0 lf_RX7_15 rfl dX7_isRight_1 ?_
  refine lv_iconst (v := (-1)) fx.1 fx.2.1 dX7_isRight_4 (by decide) ?_
  refine g_icmp_ne (tgt := 12) fx dX7_isRight_5 (by decide) hok (fun hok => ?_) (fun hok => ?_)
  · refine lv_iconst (v := 1) fx.1 fx.2.1 dX7_isRight_8 (by decide) ?_
    refine lv_goto (tgt := 13) fx.1 fx.2.1 dX7_isRight_9 (by decide) ?_
    cases gOk_some hok
    exact g_zret fx hw hr (by decide) dX7_isRight_13
  · refine lv_iconst (v := 0) fx.1 fx.2.1 dX7_isRight_12 (by decide) ?_
    cases gOk_some hok
    exact g_zret fx hw hr (by decide) dX7_isRight_13
theorem dX7_takeLineEnd_0 : decode cX7_takeLineEnd 0 = .ok (.aload_n 0, 1) := by decide +kernel
theorem dX7_takeLineEnd_1 : decode cX7_takeLineEnd 1 = .ok (.invokevirtual 54, 3) := by decide +kernel
theorem dX7_takeLineEnd_4 : decode cX7_takeLineEnd 4 = .ok (.ifCond .eq 5, 3) := by decide +kernel
theorem dX7_takeLineEnd_7 : decode cX7_takeLineEnd 7 = .ok (.iconst 0, 1) := by decide +kernel
theorem dX7_takeLineEnd_8 : decode cX7_takeLineEnd 8 = .ok (.ireturn, 1) := by decide +kernel
theorem dX7_takeLineEnd_9 : decode cX7_takeLineEnd 9 = .ok (.aload_n 0, 1) := by decide +kernel
theorem dX7_takeLineEnd_10 : decode cX7_takeLineEnd 10 = .ok (.bipush 59, 2) := by decide +kernel
theorem dX7_takeLineEnd_12 : decode cX7_takeLineEnd 12 = .ok (.invokevirtual 58, 3) := by decide +kernel
theorem dX7_takeLineEnd_15 : decode cX7_takeLineEnd 15 = .ok (.aload_n 0, 1) := by decide +kernel
theorem dX7_takeLineEnd_16 : decode cX7_takeLineEnd 16 = .ok (.invokevirtual 62, 3) := by decide +kernel
theorem dX7_takeLineEnd_19 : decode cX7_takeLineEnd 19 = .ok (.ireturn, 1) := by decide +kernel
theorem lv_RX7_54 : gLv RX7 54 RX7 yX7_isAtEnd cX7_isAtEnd 1 (some .boolean) 0 := gLv_of (wA_t (wt4 (List.mem_of_getElem? (i := 61) (by decide +kernel))) (by decide +kernel)) (wA_t (wt3 (List.mem_of_getElem? (i := 162) (by decide +kernel))) (by decide +kernel)) (wA_t (wt3 (List.mem_of_getElem? (i := 163) (by decide +kernel))) (by decide +kernel)) (wA_t (wt1 (List.mem_of_getElem? (i := 2) (by decide +kernel))) (by decide +kernel)) (wA_t (wt3 (List.mem_of_getElem? (i := 164) (by decide +kernel))) (by decide +kernel)) ⟨rfl, by decide +kernel, by decide +kernel, by decide +kernel⟩
theorem lv_RX7_58 : gLv RX7 58 RX7 yX7_needSign cX7_needSign 2 none 1 := gLv_of (wA_t (wt4 (List.mem_of_getElem? (i := 62) (by decide +kernel))) (by decide +kernel)) (wA_t (wt4 (List.mem_of_getElem? (i := 63) (by decide +kernel))) (by decide +kernel)) (wA_t (wt4 (List.mem_of_getElem? (i := 64) (by decide +kernel))) (by decide +kernel)) (wA_t (wt1 (List.mem_of_getElem? (i := 2) (by decide +kernel))) (by decide +kernel)) (wA_t (wt4 (List.mem_of_getElem? (i := 65) (by decide +kernel))) (by decide +kernel)) ⟨rfl, by decide +kernel, by decide +kernel, by decide +kernel⟩
theorem lv_RX7_62 : gLv RX7 62 RX7 yX7_isRight cX7_isRight 1 (some .boolean) 0 := gLv_of (wA_t (wt4 (List.mem_of_getElem? (i := 70) (by decide +kernel))) (by decide +kernel)) (wA_t (wt4 (List.mem_of_getElem? (i := 3) (by decide +kernel))) (by decide +kernel)) (wA_t (wt4 (List.mem_of_getElem? (i := 4) (by decide +kernel))) (by decide +kernel)) (wA_t (wt1 (List.mem_of_getElem? (i := 2) (by decide +kernel))) (by decide +kernel)) (wA_t (wt4 (List.mem_of_getElem? (i := 5) (by decide +kernel))) (by decide +kernel)) ⟨rfl, by decide +kernel, by decide +kernel, by decide +kernel⟩
def rm_X7_takeLineEnd : Room := { frames := 3, cells := 0, slots := 0, locals := 63 }
def f_X7_takeLineEnd (τ : gτ) (n : Nat) (x0 : Nat) (G : gG) : Option (Int32 × gG) :=
  (f_X7_isAtEnd x0 G).bind fun v1 =>
  if v1 = 0 then ((f_X7_needSign τ n x0 (59 : Int32) G).bind fun G2 =>
  (f_X7_isRight x0 G2).bind fun v3 =>
  gchk (v3 = 0 ∨ v3 = 1) <| some (v3, G2))
  else (some (0, G))
set_option maxHeartbeats 4000000 in
set_option maxRecDepth 100000 in
theorem c_X7_takeLineEnd (l : Launch) (X : gX) (τ : gτ) (n : Nat) (x0 : Nat) (G : gG) (h0 : gK τ x0 7) {r : Int32} {G' : gG} (h : f_X7_takeLineEnd τ n x0 G = some (r, G')) : gM l X τ yX7_takeLineEnd cX7_takeLineEnd 1 (some .boolean) rm_X7_takeLineEnd [.ref x0] G (some (.int r)) G' := by
  refine g_body (by decide +kernel) (Nat.le_of_ble_eq_true rfl) ?_
  intro p e s m args below meth c ls fx hr hw hl
  have fx : gFx X p s m args meth c cX7_takeLineEnd 1 RX7 := fx
  have hl : lv_has ls 1 [(0, .ref x0)] := hl
  have hok : gOk (f_X7_takeLineEnd τ n x0 G) (fun q => q = (r, G')) := ⟨_, h, rfl⟩
  unfold f_X7_takeLineEnd at hok
  show W p l e rm_X7_takeLineEnd s m args below meth c s.heap [] 0 0 (MQ below (gQ X τ (some (.int r)) G') args s 0 0 (gFree X)) _
  refine lv_aload_n fx.1 fx.2.1 dX7_takeLineEnd_0 rfl (lv_at hl 0 rfl) ?_
  obtain ⟨v1, hf, hok⟩ := gOk_bind hok
  refine g_callV0 (κ := 7) fx hw (c_X7_isAtEnd l X τ x0 G h0 hf) lv_RX7_54 ⟨rfl, rfl⟩ rfl rfl h0 rfl hl.1 rfl ⟨Nat.le_of_ble_eq_true rfl, Nat.le_of_ble_eq_true rfl⟩ (Nat.le_of_ble_eq_true rfl) ⟨Nat.le_of_ble_eq_true rfl, Nat.le_of_ble_eq_true rfl⟩ dX7_takeLineEnd_1 (fun H locs hw => ?_)
  refine g_if_eq (tgt := 9) fx dX7_takeLineEnd_4 (by decide) hok (fun hok => ?_) (fun hok => ?_)
  · refine lv_aload_n fx.1 fx.2.1 dX7_takeLineEnd_9 rfl (lv_at hl 0 rfl) ?_
    refine lv_bipush (v := 59) fx.1 fx.2.1 dX7_takeLineEnd_10 (by decide) ?_
    obtain ⟨G2, hf, hok⟩ := gOk_bind hok
    refine g_callV0 (κ := 7) fx hw (c_X7_needSign l X τ n x0 (59 : Int32) G h0 hf) lv_RX7_58 ⟨rfl, rfl⟩ rfl rfl h0 rfl hl.1 rfl ⟨Nat.le_of_ble_eq_true rfl, Nat.le_of_ble_eq_true rfl⟩ (Nat.le_of_ble_eq_true rfl) ⟨Nat.le_of_ble_eq_true rfl, Nat.le_of_ble_eq_true rfl⟩ dX7_takeLineEnd_12 (fun H locs hw => ?_)
    refine lv_aload_n fx.1 fx.2.1 dX7_takeLineEnd_15 rfl (lv_at hl 0 rfl) ?_
    obtain ⟨v3, hf, hok⟩ := gOk_bind hok
    refine g_callV0 (κ := 7) fx hw (c_X7_isRight l X τ x0 G2 h0 hf) lv_RX7_62 ⟨rfl, rfl⟩ rfl rfl h0 rfl hl.1 rfl ⟨Nat.le_of_ble_eq_true rfl, Nat.le_of_ble_eq_true rfl⟩ (Nat.le_of_ble_eq_true rfl) ⟨Nat.le_of_ble_eq_true rfl, Nat.le_of_ble_eq_true rfl⟩ dX7_takeLineEnd_16 (fun H locs hw => ?_)
    obtain ⟨hz, hok⟩ := gOk_chk hok
    cases gOk_some hok
    exact g_zret fx hw hr hz dX7_takeLineEnd_19
  · refine lv_iconst (v := 0) fx.1 fx.2.1 dX7_takeLineEnd_7 (by decide) ?_
    cases gOk_some hok
    exact g_zret fx hw hr (by decide) dX7_takeLineEnd_8
theorem dX9_become_0 : decode cX9_become 0 = .ok (.aload_n 0, 1) := by decide +kernel
theorem dX9_become_1 : decode cX9_become 1 = .ok (.aload_n 1, 1) := by decide +kernel
theorem dX9_become_2 : decode cX9_become 2 = .ok (.getfield 7, 3) := by decide +kernel
theorem dX9_become_5 : decode cX9_become 5 = .ok (.putfield 7, 3) := by decide +kernel
theorem dX9_become_8 : decode cX9_become 8 = .ok (.aload_n 0, 1) := by decide +kernel
theorem dX9_become_9 : decode cX9_become 9 = .ok (.aload_n 1, 1) := by decide +kernel
theorem dX9_become_10 : decode cX9_become 10 = .ok (.getfield 13, 3) := by decide +kernel
theorem dX9_become_13 : decode cX9_become 13 = .ok (.putfield 13, 3) := by decide +kernel
theorem dX9_become_16 : decode cX9_become 16 = .ok (.aload_n 0, 1) := by decide +kernel
theorem dX9_become_17 : decode cX9_become 17 = .ok (.aload_n 1, 1) := by decide +kernel
theorem dX9_become_18 : decode cX9_become 18 = .ok (.getfield 16, 3) := by decide +kernel
theorem dX9_become_21 : decode cX9_become 21 = .ok (.putfield 16, 3) := by decide +kernel
theorem dX9_become_24 : decode cX9_become 24 = .ok (.aload_n 0, 1) := by decide +kernel
theorem dX9_become_25 : decode cX9_become 25 = .ok (.aload_n 1, 1) := by decide +kernel
theorem dX9_become_26 : decode cX9_become 26 = .ok (.getfield 19, 3) := by decide +kernel
theorem dX9_become_29 : decode cX9_become 29 = .ok (.putfield 19, 3) := by decide +kernel
theorem dX9_become_32 : decode cX9_become 32 = .ok (.return_, 1) := by decide +kernel
theorem lf_RX9_7 : gLf RX9 7 9 0 := ⟨(RX9, TX9, 4), rfl, by decide, wA_t (wt1 (List.mem_of_getElem? (i := 133) (by decide +kernel))) (by decide +kernel), rfl⟩
theorem lp_RX9_7 : gLp RX9 7 9 0 := ⟨(RX9, TX9, 4), rfl, by decide, wA_t (wt1 (List.mem_of_getElem? (i := 133) (by decide +kernel))) (by decide +kernel), rfl, rfl⟩
theorem lf_RX9_13 : gLf RX9 13 9 1 := ⟨(RX9, TX9, 4), rfl, by decide, wA_t (wt1 (List.mem_of_getElem? (i := 137) (by decide +kernel))) (by decide +kernel), rfl⟩
theorem lp_RX9_13 : gLp RX9 13 9 1 := ⟨(RX9, TX9, 4), rfl, by decide, wA_t (wt1 (List.mem_of_getElem? (i := 137) (by decide +kernel))) (by decide +kernel), rfl, rfl⟩
theorem lf_RX9_16 : gLf RX9 16 9 2 := ⟨(RX9, TX9, 4), rfl, by decide, wA_t (wt1 (List.mem_of_getElem? (i := 140) (by decide +kernel))) (by decide +kernel), rfl⟩
theorem lp_RX9_16 : gLp RX9 16 9 2 := ⟨(RX9, TX9, 4), rfl, by decide, wA_t (wt1 (List.mem_of_getElem? (i := 140) (by decide +kernel))) (by decide +kernel), rfl, rfl⟩
theorem lf_RX9_19 : gLf RX9 19 9 3 := ⟨(RX9, TX9, 4), rfl, by decide, wA_t (wt1 (List.mem_of_getElem? (i := 144) (by decide +kernel))) (by decide +kernel), rfl⟩
theorem lp_RX9_19 : gLp RX9 19 9 3 := ⟨(RX9, TX9, 4), rfl, by decide, wA_t (wt1 (List.mem_of_getElem? (i := 144) (by decide +kernel))) (by decide +kernel), rfl, rfl⟩
def rm_X9_become : Room := { frames := 0, cells := 0, slots := 0, locals := 0 }
def f_X9_become (x0 : Nat) (x1 : Nat) (G : gG) : Option (gG) :=
  gLet (gsi G 9 0 x0 (gi G 9 0 x1)) fun G1 =>
  gLet (gsi G1 9 1 x0 (gi G1 9 1 x1)) fun G2 =>
  gLet (gsi G2 9 2 x0 (gi G2 9 2 x1)) fun G3 =>
  gLet (gsi G3 9 3 x0 (gi G3 9 3 x1)) fun G4 =>
  some G4
set_option maxHeartbeats 4000000 in
set_option maxRecDepth 100000 in
theorem c_X9_become (l : Launch) (X : gX) (τ : gτ) (x0 : Nat) (x1 : Nat) (G : gG) (h0 : gK τ x0 9) (h1 : gK τ x1 9) {G' : gG} (h : f_X9_become x0 x1 G = some G') : gM l X τ yX9_become cX9_become 2 none rm_X9_become [.ref x0, .ref x1] G none G' := by
  refine g_body (by decide +kernel) (Nat.le_of_ble_eq_true rfl) ?_
  intro p e s m args below meth c ls fx hr hw hl
  have fx : gFx X p s m args meth c cX9_become 2 RX9 := fx
  have hl : lv_has ls 2 [(0, .ref x0), (1, .ref x1)] := hl
  have hok : gOk (f_X9_become x0 x1 G) (fun q => q = G') := ⟨_, h, rfl⟩
  unfold f_X9_become at hok
  show W p l e rm_X9_become s m args below meth c s.heap [] 0 0 (MQ below (gQ X τ none G') args s 0 0 (gFree X)) _
  refine lv_aload_n fx.1 fx.2.1 dX9_become_0 rfl (lv_at hl 0 rfl) ?_
  refine lv_aload_n fx.1 fx.2.1 dX9_become_1 rfl (lv_at hl 1 rfl) ?_
  refine g_geti fx hw h1 lf_RX9_7 rfl dX9_become_2 ?_
  refine g_puti fx hw h0 lp_RX9_7 rfl rfl dX9_become_5 hok (fun G1 H locs hw hok => ?_)
  refine lv_aload_n fx.1 fx.2.1 dX9_become_8 rfl (lv_at hl 0 rfl) ?_
  refine lv_aload_n fx.1 fx.2.1 dX9_become_9 rfl (lv_at hl 1 rfl) ?_
  refine g_geti fx hw h1 lf_RX9_13 rfl dX9_become_10 ?_
  refine g_puti fx hw h0 lp_RX9_13 rfl rfl dX9_become_13 hok (fun G2 H locs hw hok => ?_)
  refine lv_aload_n fx.1 fx.2.1 dX9_become_16 rfl (lv_at hl 0 rfl) ?_
  refine lv_aload_n fx.1 fx.2.1 dX9_become_17 rfl (lv_at hl 1 rfl) ?_
  refine g_geti fx hw h1 lf_RX9_16 rfl dX9_become_18 ?_
  refine g_puti fx hw h0 lp_RX9_16 rfl rfl dX9_become_21 hok (fun G3 H locs hw hok => ?_)
  refine lv_aload_n fx.1 fx.2.1 dX9_become_24 rfl (lv_at hl 0 rfl) ?_
  refine lv_aload_n fx.1 fx.2.1 dX9_become_25 rfl (lv_at hl 1 rfl) ?_
  refine g_geti fx hw h1 lf_RX9_19 rfl dX9_become_26 ?_
  refine g_puti fx hw h0 lp_RX9_19 rfl rfl dX9_become_29 hok (fun G4 H locs hw hok => ?_)
  cases gOk_some hok
  exact g_vret fx hw hr dX9_become_32
theorem dX5_become_0 : decode cX5_become 0 = .ok (.aload_n 0, 1) := by decide +kernel
theorem dX5_become_1 : decode cX5_become 1 = .ok (.aload_n 1, 1) := by decide +kernel
theorem dX5_become_2 : decode cX5_become 2 = .ok (.getfield 9, 3) := by decide +kernel
theorem dX5_become_5 : decode cX5_become 5 = .ok (.putfield 9, 3) := by decide +kernel
theorem dX5_become_8 : decode cX5_become 8 = .ok (.aload_n 0, 1) := by decide +kernel
theorem dX5_become_9 : decode cX5_become 9 = .ok (.aload_n 1, 1) := by decide +kernel
theorem dX5_become_10 : decode cX5_become 10 = .ok (.getfield 15, 3) := by decide +kernel
theorem dX5_become_13 : decode cX5_become 13 = .ok (.putfield 15, 3) := by decide +kernel
theorem dX5_become_16 : decode cX5_become 16 = .ok (.aload_n 0, 1) := by decide +kernel
theorem dX5_become_17 : decode cX5_become 17 = .ok (.aload_n 1, 1) := by decide +kernel
theorem dX5_become_18 : decode cX5_become 18 = .ok (.getfield 18, 3) := by decide +kernel
theorem dX5_become_21 : decode cX5_become 21 = .ok (.putfield 18, 3) := by decide +kernel
theorem dX5_become_24 : decode cX5_become 24 = .ok (.aload_n 0, 1) := by decide +kernel
theorem dX5_become_25 : decode cX5_become 25 = .ok (.aload_n 1, 1) := by decide +kernel
theorem dX5_become_26 : decode cX5_become 26 = .ok (.getfield 21, 3) := by decide +kernel
theorem dX5_become_29 : decode cX5_become 29 = .ok (.putfield 21, 3) := by decide +kernel
theorem dX5_become_32 : decode cX5_become 32 = .ok (.aload_n 0, 1) := by decide +kernel
theorem dX5_become_33 : decode cX5_become 33 = .ok (.aload_n 1, 1) := by decide +kernel
theorem dX5_become_34 : decode cX5_become 34 = .ok (.getfield 24, 3) := by decide +kernel
theorem dX5_become_37 : decode cX5_become 37 = .ok (.putfield 24, 3) := by decide +kernel
theorem dX5_become_40 : decode cX5_become 40 = .ok (.aload_n 0, 1) := by decide +kernel
theorem dX5_become_41 : decode cX5_become 41 = .ok (.aload_n 1, 1) := by decide +kernel
theorem dX5_become_42 : decode cX5_become 42 = .ok (.getfield 27, 3) := by decide +kernel
theorem dX5_become_45 : decode cX5_become 45 = .ok (.putfield 27, 3) := by decide +kernel
theorem dX5_become_48 : decode cX5_become 48 = .ok (.aload_n 0, 1) := by decide +kernel
theorem dX5_become_49 : decode cX5_become 49 = .ok (.aload_n 1, 1) := by decide +kernel
theorem dX5_become_50 : decode cX5_become 50 = .ok (.getfield 30, 3) := by decide +kernel
theorem dX5_become_53 : decode cX5_become 53 = .ok (.putfield 30, 3) := by decide +kernel
theorem dX5_become_56 : decode cX5_become 56 = .ok (.aload_n 0, 1) := by decide +kernel
theorem dX5_become_57 : decode cX5_become 57 = .ok (.aload_n 1, 1) := by decide +kernel
theorem dX5_become_58 : decode cX5_become 58 = .ok (.getfield 33, 3) := by decide +kernel
theorem dX5_become_61 : decode cX5_become 61 = .ok (.putfield 33, 3) := by decide +kernel
theorem dX5_become_64 : decode cX5_become 64 = .ok (.aload_n 0, 1) := by decide +kernel
theorem dX5_become_65 : decode cX5_become 65 = .ok (.aload_n 1, 1) := by decide +kernel
theorem dX5_become_66 : decode cX5_become 66 = .ok (.getfield 36, 3) := by decide +kernel
theorem dX5_become_69 : decode cX5_become 69 = .ok (.putfield 36, 3) := by decide +kernel
theorem dX5_become_72 : decode cX5_become 72 = .ok (.aload_n 0, 1) := by decide +kernel
theorem dX5_become_73 : decode cX5_become 73 = .ok (.aload_n 1, 1) := by decide +kernel
theorem dX5_become_74 : decode cX5_become 74 = .ok (.getfield 40, 3) := by decide +kernel
theorem dX5_become_77 : decode cX5_become 77 = .ok (.putfield 40, 3) := by decide +kernel
theorem dX5_become_80 : decode cX5_become 80 = .ok (.return_, 1) := by decide +kernel
theorem lf_RX5_9 : gLf RX5 9 5 0 := ⟨(RX5, TX5, 10), rfl, by decide, wA_t (wt1 (List.mem_of_getElem? (i := 162) (by decide +kernel))) (by decide +kernel), rfl⟩
theorem lp_RX5_9 : gLp RX5 9 5 0 := ⟨(RX5, TX5, 10), rfl, by decide, wA_t (wt1 (List.mem_of_getElem? (i := 162) (by decide +kernel))) (by decide +kernel), rfl, rfl⟩
theorem lf_RX5_15 : gLf RX5 15 5 1 := ⟨(RX5, TX5, 10), rfl, by decide, wA_t (wt1 (List.mem_of_getElem? (i := 166) (by decide +kernel))) (by decide +kernel), rfl⟩
theorem lp_RX5_15 : gLp RX5 15 5 1 := ⟨(RX5, TX5, 10), rfl, by decide, wA_t (wt1 (List.mem_of_getElem? (i := 166) (by decide +kernel))) (by decide +kernel), rfl, rfl⟩
theorem lf_RX5_18 : gLf RX5 18 5 2 := ⟨(RX5, TX5, 10), rfl, by decide, wA_t (wt1 (List.mem_of_getElem? (i := 170) (by decide +kernel))) (by decide +kernel), rfl⟩
theorem lp_RX5_18 : gLp RX5 18 5 2 := ⟨(RX5, TX5, 10), rfl, by decide, wA_t (wt1 (List.mem_of_getElem? (i := 170) (by decide +kernel))) (by decide +kernel), rfl, rfl⟩
theorem lf_RX5_21 : gLf RX5 21 5 3 := ⟨(RX5, TX5, 10), rfl, by decide, wA_t (wt1 (List.mem_of_getElem? (i := 174) (by decide +kernel))) (by decide +kernel), rfl⟩
theorem lp_RX5_21 : gLp RX5 21 5 3 := ⟨(RX5, TX5, 10), rfl, by decide, wA_t (wt1 (List.mem_of_getElem? (i := 174) (by decide +kernel))) (by decide +kernel), rfl, rfl⟩
theorem lf_RX5_24 : gLf RX5 24 5 4 := ⟨(RX5, TX5, 10), rfl, by decide, wA_t (wt1 (List.mem_of_getElem? (i := 178) (by decide +kernel))) (by decide +kernel), rfl⟩
theorem lp_RX5_24 : gLp RX5 24 5 4 := ⟨(RX5, TX5, 10), rfl, by decide, wA_t (wt1 (List.mem_of_getElem? (i := 178) (by decide +kernel))) (by decide +kernel), rfl, rfl⟩
theorem lf_RX5_27 : gLf RX5 27 5 5 := ⟨(RX5, TX5, 10), rfl, by decide, wA_t (wt1 (List.mem_of_getElem? (i := 182) (by decide +kernel))) (by decide +kernel), rfl⟩
theorem lp_RX5_27 : gLp RX5 27 5 5 := ⟨(RX5, TX5, 10), rfl, by decide, wA_t (wt1 (List.mem_of_getElem? (i := 182) (by decide +kernel))) (by decide +kernel), rfl, rfl⟩
theorem lf_RX5_30 : gLf RX5 30 5 6 := ⟨(RX5, TX5, 10), rfl, by decide, wA_t (wt1 (List.mem_of_getElem? (i := 186) (by decide +kernel))) (by decide +kernel), rfl⟩
theorem lp_RX5_30 : gLp RX5 30 5 6 := ⟨(RX5, TX5, 10), rfl, by decide, wA_t (wt1 (List.mem_of_getElem? (i := 186) (by decide +kernel))) (by decide +kernel), rfl, rfl⟩
theorem lf_RX5_33 : gLf RX5 33 5 7 := ⟨(RX5, TX5, 10), rfl, by decide, wA_t (wt1 (List.mem_of_getElem? (i := 190) (by decide +kernel))) (by decide +kernel), rfl⟩
theorem lp_RX5_33 : gLp RX5 33 5 7 := ⟨(RX5, TX5, 10), rfl, by decide, wA_t (wt1 (List.mem_of_getElem? (i := 190) (by decide +kernel))) (by decide +kernel), rfl, rfl⟩
theorem lf_RX5_36 : gLf RX5 36 5 8 := ⟨(RX5, TX5, 10), rfl, by decide, wA_t (wt1 (List.mem_of_getElem? (i := 196) (by decide +kernel))) (by decide +kernel), rfl⟩
theorem lp_RX5_36 : gLp RX5 36 5 8 := ⟨(RX5, TX5, 10), rfl, by decide, wA_t (wt1 (List.mem_of_getElem? (i := 196) (by decide +kernel))) (by decide +kernel), rfl, rfl⟩
theorem lf_RX5_40 : gLf RX5 40 5 9 := ⟨(RX5, TX5, 10), rfl, by decide, wA_t (wt1 (List.mem_of_getElem? (i := 201) (by decide +kernel))) (by decide +kernel), rfl⟩
theorem lp_RX5_40 : gLp RX5 40 5 9 := ⟨(RX5, TX5, 10), rfl, by decide, wA_t (wt1 (List.mem_of_getElem? (i := 201) (by decide +kernel))) (by decide +kernel), rfl, rfl⟩
def rm_X5_become : Room := { frames := 0, cells := 0, slots := 0, locals := 0 }
def f_X5_become (x0 : Nat) (x1 : Nat) (G : gG) : Option (gG) :=
  gLet (gsi G 5 0 x0 (gi G 5 0 x1)) fun G1 =>
  gLet (gsi G1 5 1 x0 (gi G1 5 1 x1)) fun G2 =>
  gLet (gsi G2 5 2 x0 (gi G2 5 2 x1)) fun G3 =>
  gLet (gsi G3 5 3 x0 (gi G3 5 3 x1)) fun G4 =>
  gLet (gsi G4 5 4 x0 (gi G4 5 4 x1)) fun G5 =>
  gLet (gsi G5 5 5 x0 (gi G5 5 5 x1)) fun G6 =>
  gLet (gsi G6 5 6 x0 (gi G6 5 6 x1)) fun G7 =>
  gLet (gsi G7 5 7 x0 (gi G7 5 7 x1)) fun G8 =>
  gchk ((gi G8 5 8 x1) = 0 ∨ (gi G8 5 8 x1) = 1) <|
  gLet (gsi G8 5 8 x0 (gi G8 5 8 x1)) fun G9 =>
  gchk ((gi G9 5 9 x1) = 0 ∨ (gi G9 5 9 x1) = 1) <|
  gLet (gsi G9 5 9 x0 (gi G9 5 9 x1)) fun G10 =>
  some G10
set_option maxHeartbeats 4000000 in
set_option maxRecDepth 100000 in
theorem c_X5_become (l : Launch) (X : gX) (τ : gτ) (x0 : Nat) (x1 : Nat) (G : gG) (h0 : gK τ x0 5) (h1 : gK τ x1 5) {G' : gG} (h : f_X5_become x0 x1 G = some G') : gM l X τ yX5_become cX5_become 2 none rm_X5_become [.ref x0, .ref x1] G none G' := by
  refine g_body (by decide +kernel) (Nat.le_of_ble_eq_true rfl) ?_
  intro p e s m args below meth c ls fx hr hw hl
  have fx : gFx X p s m args meth c cX5_become 2 RX5 := fx
  have hl : lv_has ls 2 [(0, .ref x0), (1, .ref x1)] := hl
  have hok : gOk (f_X5_become x0 x1 G) (fun q => q = G') := ⟨_, h, rfl⟩
  unfold f_X5_become at hok
  show W p l e rm_X5_become s m args below meth c s.heap [] 0 0 (MQ below (gQ X τ none G') args s 0 0 (gFree X)) _
  refine lv_aload_n fx.1 fx.2.1 dX5_become_0 rfl (lv_at hl 0 rfl) ?_
  refine lv_aload_n fx.1 fx.2.1 dX5_become_1 rfl (lv_at hl 1 rfl) ?_
  refine g_geti fx hw h1 lf_RX5_9 rfl dX5_become_2 ?_
  refine g_puti fx hw h0 lp_RX5_9 rfl rfl dX5_become_5 hok (fun G1 H locs hw hok => ?_)
  refine lv_aload_n fx.1 fx.2.1 dX5_become_8 rfl (lv_at hl 0 rfl) ?_
  refine lv_aload_n fx.1 fx.2.1 dX5_become_9 rfl (lv_at hl 1 rfl) ?_
  refine g_geti fx hw h1 lf_RX5_15 rfl dX5_become_10 ?_
  refine g_puti fx hw h0 lp_RX5_15 rfl rfl dX5_become_13 hok (fun G2 H locs hw hok => ?_)
  refine lv_aload_n fx.1 fx.2.1 dX5_become_16 rfl (lv_at hl 0 rfl) ?_
  refine lv_aload_n fx.1 fx.2.1 dX5_become_17 rfl (lv_at hl 1 rfl) ?_
  refine g_geti fx hw h1 lf_RX5_18 rfl dX5_become_18 ?_
  refine g_puti fx hw h0 lp_RX5_18 rfl rfl dX5_become_21 hok (fun G3 H locs hw hok => ?_)
  refine lv_aload_n fx.1 fx.2.1 dX5_become_24 rfl (lv_at hl 0 rfl) ?_
  refine lv_aload_n fx.1 fx.2.1 dX5_become_25 rfl (lv_at hl 1 rfl) ?_
  refine g_geti fx hw h1 lf_RX5_21 rfl dX5_become_26 ?_
  refine g_puti fx hw h0 lp_RX5_21 rfl rfl dX5_become_29 hok (fun G4 H locs hw hok => ?_)
  refine lv_aload_n fx.1 fx.2.1 dX5_become_32 rfl (lv_at hl 0 rfl) ?_
  refine lv_aload_n fx.1 fx.2.1 dX5_become_33 rfl (lv_at hl 1 rfl) ?_
  refine g_geti fx hw h1 lf_RX5_24 rfl dX5_become_34 ?_
  refine g_puti fx hw h0 lp_RX5_24 rfl rfl dX5_become_37 hok (fun G5 H locs hw hok => ?_)
  refine lv_aload_n fx.1 fx.2.1 dX5_become_40 rfl (lv_at hl 0 rfl) ?_
  refine lv_aload_n fx.1 fx.2.1 dX5_become_41 rfl (lv_at hl 1 rfl) ?_
  refine g_geti fx hw h1 lf_RX5_27 rfl dX5_become_42 ?_
  refine g_puti fx hw h0 lp_RX5_27 rfl rfl dX5_become_45 hok (fun G6 H locs hw hok => ?_)
  refine lv_aload_n fx.1 fx.2.1 dX5_become_48 rfl (lv_at hl 0 rfl) ?_
  refine lv_aload_n fx.1 fx.2.1 dX5_become_49 rfl (lv_at hl 1 rfl) ?_
  refine g_geti fx hw h1 lf_RX5_30 rfl dX5_become_50 ?_
  refine g_puti fx hw h0 lp_RX5_30 rfl rfl dX5_become_53 hok (fun G7 H locs hw hok => ?_)
  refine lv_aload_n fx.1 fx.2.1 dX5_become_56 rfl (lv_at hl 0 rfl) ?_
  refine lv_aload_n fx.1 fx.2.1 dX5_become_57 rfl (lv_at hl 1 rfl) ?_
  refine g_geti fx hw h1 lf_RX5_33 rfl dX5_become_58 ?_
  refine g_puti fx hw h0 lp_RX5_33 rfl rfl dX5_become_61 hok (fun G8 H locs hw hok => ?_)
  refine lv_aload_n fx.1 fx.2.1 dX5_become_64 rfl (lv_at hl 0 rfl) ?_
  refine lv_aload_n fx.1 fx.2.1 dX5_become_65 rfl (lv_at hl 1 rfl) ?_
  refine g_geti fx hw h1 lf_RX5_36 rfl dX5_become_66 ?_
  obtain ⟨hz, hok⟩ := gOk_chk hok
  refine g_putz fx hw h0 lp_RX5_36 rfl rfl hz dX5_become_69 hok (fun G9 H locs hw hok => ?_)
  refine lv_aload_n fx.1 fx.2.1 dX5_become_72 rfl (lv_at hl 0 rfl) ?_
  refine lv_aload_n fx.1 fx.2.1 dX5_become_73 rfl (lv_at hl 1 rfl) ?_
  refine g_geti fx hw h1 lf_RX5_40 rfl dX5_become_74 ?_
  obtain ⟨hz, hok⟩ := gOk_chk hok
  refine g_putz fx hw h0 lp_RX5_40 rfl rfl hz dX5_become_77 hok (fun G10 H locs hw hok => ?_)
  cases gOk_some hok
  exact g_vret fx hw hr dX5_become_80
theorem dX4_become_0 : decode cX4_become 0 = .ok (.aload_n 0, 1) := by decide +kernel
theorem dX4_become_1 : decode cX4_become 1 = .ok (.aload_n 1, 1) := by decide +kernel
theorem dX4_become_2 : decode cX4_become 2 = .ok (.getfield 7, 3) := by decide +kernel
theorem dX4_become_5 : decode cX4_become 5 = .ok (.putfield 7, 3) := by decide +kernel
theorem dX4_become_8 : decode cX4_become 8 = .ok (.aload_n 0, 1) := by decide +kernel
theorem dX4_become_9 : decode cX4_become 9 = .ok (.aload_n 1, 1) := by decide +kernel
theorem dX4_become_10 : decode cX4_become 10 = .ok (.getfield 13, 3) := by decide +kernel
theorem dX4_become_13 : decode cX4_become 13 = .ok (.putfield 13, 3) := by decide +kernel
theorem dX4_become_16 : decode cX4_become 16 = .ok (.aload_n 0, 1) := by decide +kernel
theorem dX4_become_17 : decode cX4_become 17 = .ok (.aload_n 1, 1) := by decide +kernel
theorem dX4_become_18 : decode cX4_become 18 = .ok (.getfield 16, 3) := by decide +kernel
theorem dX4_become_21 : decode cX4_become 21 = .ok (.putfield 16, 3) := by decide +kernel
theorem dX4_become_24 : decode cX4_become 24 = .ok (.return_, 1) := by decide +kernel
theorem lf_RX4_7 : gLf RX4 7 4 0 := ⟨(RX4, TX4, 3), rfl, by decide, wA_t (wt1 (List.mem_of_getElem? (i := 231) (by decide +kernel))) (by decide +kernel), rfl⟩
theorem lp_RX4_7 : gLp RX4 7 4 0 := ⟨(RX4, TX4, 3), rfl, by decide, wA_t (wt1 (List.mem_of_getElem? (i := 231) (by decide +kernel))) (by decide +kernel), rfl, rfl⟩
theorem lf_RX4_13 : gLf RX4 13 4 1 := ⟨(RX4, TX4, 3), rfl, by decide, wA_t (wt1 (List.mem_of_getElem? (i := 234) (by decide +kernel))) (by decide +kernel), rfl⟩
theorem lp_RX4_13 : gLp RX4 13 4 1 := ⟨(RX4, TX4, 3), rfl, by decide, wA_t (wt1 (List.mem_of_getElem? (i := 234) (by decide +kernel))) (by decide +kernel), rfl, rfl⟩
theorem lf_RX4_16 : gLf RX4 16 4 2 := ⟨(RX4, TX4, 3), rfl, by decide, wA_t (wt1 (List.mem_of_getElem? (i := 237) (by decide +kernel))) (by decide +kernel), rfl⟩
theorem lp_RX4_16 : gLp RX4 16 4 2 := ⟨(RX4, TX4, 3), rfl, by decide, wA_t (wt1 (List.mem_of_getElem? (i := 237) (by decide +kernel))) (by decide +kernel), rfl, rfl⟩
def rm_X4_become : Room := { frames := 0, cells := 0, slots := 0, locals := 0 }
def f_X4_become (x0 : Nat) (x1 : Nat) (G : gG) : Option (gG) :=
  gLet (gsi G 4 0 x0 (gi G 4 0 x1)) fun G1 =>
  gLet (gsi G1 4 1 x0 (gi G1 4 1 x1)) fun G2 =>
  gLet (gsi G2 4 2 x0 (gi G2 4 2 x1)) fun G3 =>
  some G3
set_option maxHeartbeats 4000000 in
set_option maxRecDepth 100000 in
theorem c_X4_become (l : Launch) (X : gX) (τ : gτ) (x0 : Nat) (x1 : Nat) (G : gG) (h0 : gK τ x0 4) (h1 : gK τ x1 4) {G' : gG} (h : f_X4_become x0 x1 G = some G') : gM l X τ yX4_become cX4_become 2 none rm_X4_become [.ref x0, .ref x1] G none G' := by
  refine g_body (by decide +kernel) (Nat.le_of_ble_eq_true rfl) ?_
  intro p e s m args below meth c ls fx hr hw hl
  have fx : gFx X p s m args meth c cX4_become 2 RX4 := fx
  have hl : lv_has ls 2 [(0, .ref x0), (1, .ref x1)] := hl
  have hok : gOk (f_X4_become x0 x1 G) (fun q => q = G') := ⟨_, h, rfl⟩
  unfold f_X4_become at hok
  show W p l e rm_X4_become s m args below meth c s.heap [] 0 0 (MQ below (gQ X τ none G') args s 0 0 (gFree X)) _
  refine lv_aload_n fx.1 fx.2.1 dX4_become_0 rfl (lv_at hl 0 rfl) ?_
  refine lv_aload_n fx.1 fx.2.1 dX4_become_1 rfl (lv_at hl 1 rfl) ?_
  refine g_geti fx hw h1 lf_RX4_7 rfl dX4_become_2 ?_
  refine g_puti fx hw h0 lp_RX4_7 rfl rfl dX4_become_5 hok (fun G1 H locs hw hok => ?_)
  refine lv_aload_n fx.1 fx.2.1 dX4_become_8 rfl (lv_at hl 0 rfl) ?_
  refine lv_aload_n fx.1 fx.2.1 dX4_become_9 rfl (lv_at hl 1 rfl) ?_
  refine g_geti fx hw h1 lf_RX4_13 rfl dX4_become_10 ?_
  refine g_puti fx hw h0 lp_RX4_13 rfl rfl dX4_become_13 hok (fun G2 H locs hw hok => ?_)
  refine lv_aload_n fx.1 fx.2.1 dX4_become_16 rfl (lv_at hl 0 rfl) ?_
  refine lv_aload_n fx.1 fx.2.1 dX4_become_17 rfl (lv_at hl 1 rfl) ?_
  refine g_geti fx hw h1 lf_RX4_16 rfl dX4_become_18 ?_
  refine g_puti fx hw h0 lp_RX4_16 rfl rfl dX4_become_21 hok (fun G3 H locs hw hok => ?_)
  cases gOk_some hok
  exact g_vret fx hw hr dX4_become_24
theorem dX6_become_0 : decode cX6_become 0 = .ok (.iconst 0, 1) := by decide +kernel
theorem dX6_become_1 : decode cX6_become 1 = .ok (.istore_n 2, 1) := by decide +kernel
theorem dX6_become_2 : decode cX6_become 2 = .ok (.iload_n 2, 1) := by decide +kernel
theorem dX6_become_3 : decode cX6_become 3 = .ok (.aload_n 1, 1) := by decide +kernel
theorem dX6_become_4 : decode cX6_become 4 = .ok (.getfield 43, 3) := by decide +kernel
theorem dX6_become_7 : decode cX6_become 7 = .ok (.if_icmp .ge 24, 3) := by decide +kernel
theorem dX6_become_10 : decode cX6_become 10 = .ok (.aload_n 0, 1) := by decide +kernel
theorem dX6_become_11 : decode cX6_become 11 = .ok (.getfield 11, 3) := by decide +kernel
theorem dX6_become_14 : decode cX6_become 14 = .ok (.iload_n 2, 1) := by decide +kernel
theorem dX6_become_15 : decode cX6_become 15 = .ok (.aaload, 1) := by decide +kernel
theorem dX6_become_16 : decode cX6_become 16 = .ok (.aload_n 1, 1) := by decide +kernel
theorem dX6_become_17 : decode cX6_become 17 = .ok (.getfield 11, 3) := by decide +kernel
theorem dX6_become_20 : decode cX6_become 20 = .ok (.iload_n 2, 1) := by decide +kernel
theorem dX6_become_21 : decode cX6_become 21 = .ok (.aaload, 1) := by decide +kernel
theorem dX6_become_22 : decode cX6_become 22 = .ok (.invokevirtual 46, 3) := by decide +kernel
theorem dX6_become_25 : decode cX6_become 25 = .ok (.iinc 2 1, 3) := by decide +kernel
theorem dX6_become_28 : decode cX6_become 28 = .ok (.goto (-26), 3) := by decide +kernel
theorem dX6_become_31 : decode cX6_become 31 = .ok (.iconst 0, 1) := by decide +kernel
theorem dX6_become_32 : decode cX6_become 32 = .ok (.istore_n 2, 1) := by decide +kernel
theorem dX6_become_33 : decode cX6_become 33 = .ok (.iload_n 2, 1) := by decide +kernel
theorem dX6_become_34 : decode cX6_become 34 = .ok (.aload_n 1, 1) := by decide +kernel
theorem dX6_become_35 : decode cX6_become 35 = .ok (.getfield 50, 3) := by decide +kernel
theorem dX6_become_38 : decode cX6_become 38 = .ok (.if_icmp .ge 24, 3) := by decide +kernel
theorem dX6_become_41 : decode cX6_become 41 = .ok (.aload_n 0, 1) := by decide +kernel
theorem dX6_become_42 : decode cX6_become 42 = .ok (.getfield 19, 3) := by decide +kernel
theorem dX6_become_45 : decode cX6_become 45 = .ok (.iload_n 2, 1) := by decide +kernel
theorem dX6_become_46 : decode cX6_become 46 = .ok (.aaload, 1) := by decide +kernel
theorem dX6_become_47 : decode cX6_become 47 = .ok (.aload_n 1, 1) := by decide +kernel
theorem dX6_become_48 : decode cX6_become 48 = .ok (.getfield 19, 3) := by decide +kernel
theorem dX6_become_51 : decode cX6_become 51 = .ok (.iload_n 2, 1) := by decide +kernel
theorem dX6_become_52 : decode cX6_become 52 = .ok (.aaload, 1) := by decide +kernel
theorem dX6_become_53 : decode cX6_become 53 = .ok (.invokevirtual 53, 3) := by decide +kernel
theorem dX6_become_56 : decode cX6_become 56 = .ok (.iinc 2 1, 3) := by decide +kernel
theorem dX6_become_59 : decode cX6_become 59 = .ok (.goto (-26), 3) := by decide +kernel
theorem dX6_become_62 : decode cX6_become 62 = .ok (.iconst 0, 1) := by decide +kernel
theorem dX6_become_63 : decode cX6_become 63 = .ok (.istore_n 2, 1) := by decide +kernel
theorem dX6_become_64 : decode cX6_become 64 = .ok (.iload_n 2, 1) := by decide +kernel
theorem dX6_become_65 : decode cX6_become 65 = .ok (.aload_n 1, 1) := by decide +kernel
theorem dX6_become_66 : decode cX6_become 66 = .ok (.getfield 56, 3) := by decide +kernel
theorem dX6_become_69 : decode cX6_become 69 = .ok (.if_icmp .ge 24, 3) := by decide +kernel
theorem dX6_become_72 : decode cX6_become 72 = .ok (.aload_n 0, 1) := by decide +kernel
theorem dX6_become_73 : decode cX6_become 73 = .ok (.getfield 25, 3) := by decide +kernel
theorem dX6_become_76 : decode cX6_become 76 = .ok (.iload_n 2, 1) := by decide +kernel
theorem dX6_become_77 : decode cX6_become 77 = .ok (.aaload, 1) := by decide +kernel
theorem dX6_become_78 : decode cX6_become 78 = .ok (.aload_n 1, 1) := by decide +kernel
theorem dX6_become_79 : decode cX6_become 79 = .ok (.getfield 25, 3) := by decide +kernel
theorem dX6_become_82 : decode cX6_become 82 = .ok (.iload_n 2, 1) := by decide +kernel
theorem dX6_become_83 : decode cX6_become 83 = .ok (.aaload, 1) := by decide +kernel
theorem dX6_become_84 : decode cX6_become 84 = .ok (.invokevirtual 59, 3) := by decide +kernel
theorem dX6_become_87 : decode cX6_become 87 = .ok (.iinc 2 1, 3) := by decide +kernel
theorem dX6_become_90 : decode cX6_become 90 = .ok (.goto (-26), 3) := by decide +kernel
theorem dX6_become_93 : decode cX6_become 93 = .ok (.aload_n 0, 1) := by decide +kernel
theorem dX6_become_94 : decode cX6_become 94 = .ok (.getfield 32, 3) := by decide +kernel
theorem dX6_become_97 : decode cX6_become 97 = .ok (.aload_n 1, 1) := by decide +kernel
theorem dX6_become_98 : decode cX6_become 98 = .ok (.getfield 32, 3) := by decide +kernel
theorem dX6_become_101 : decode cX6_become 101 = .ok (.invokevirtual 62, 3) := by decide +kernel
theorem dX6_become_104 : decode cX6_become 104 = .ok (.aload_n 0, 1) := by decide +kernel
theorem dX6_become_105 : decode cX6_become 105 = .ok (.aload_n 1, 1) := by decide +kernel
theorem dX6_become_106 : decode cX6_become 106 = .ok (.getfield 43, 3) := by decide +kernel
theorem dX6_become_109 : decode cX6_become 109 = .ok (.putfield 43, 3) := by decide +kernel
theorem dX6_become_112 : decode cX6_become 112 = .ok (.aload_n 0, 1) := by decide +kernel
theorem dX6_become_113 : decode cX6_become 113 = .ok (.aload_n 1, 1) := by decide +kernel
theorem dX6_become_114 : decode cX6_become 114 = .ok (.getfield 50, 3) := by decide +kernel
theorem dX6_become_117 : decode cX6_become 117 = .ok (.putfield 50, 3) := by decide +kernel
theorem dX6_become_120 : decode cX6_become 120 = .ok (.aload_n 0, 1) := by decide +kernel
theorem dX6_become_121 : decode cX6_become 121 = .ok (.aload_n 1, 1) := by decide +kernel
theorem dX6_become_122 : decode cX6_become 122 = .ok (.getfield 56, 3) := by decide +kernel
theorem dX6_become_125 : decode cX6_become 125 = .ok (.putfield 56, 3) := by decide +kernel
theorem dX6_become_128 : decode cX6_become 128 = .ok (.aload_n 0, 1) := by decide +kernel
theorem dX6_become_129 : decode cX6_become 129 = .ok (.aload_n 1, 1) := by decide +kernel
theorem dX6_become_130 : decode cX6_become 130 = .ok (.getfield 65, 3) := by decide +kernel
theorem dX6_become_133 : decode cX6_become 133 = .ok (.putfield 65, 3) := by decide +kernel
theorem dX6_become_136 : decode cX6_become 136 = .ok (.aload_n 0, 1) := by decide +kernel
theorem dX6_become_137 : decode cX6_become 137 = .ok (.aload_n 1, 1) := by decide +kernel
theorem dX6_become_138 : decode cX6_become 138 = .ok (.getfield 68, 3) := by decide +kernel
theorem dX6_become_141 : decode cX6_become 141 = .ok (.putfield 68, 3) := by decide +kernel
theorem dX6_become_144 : decode cX6_become 144 = .ok (.aload_n 0, 1) := by decide +kernel
theorem dX6_become_145 : decode cX6_become 145 = .ok (.aload_n 1, 1) := by decide +kernel
theorem dX6_become_146 : decode cX6_become 146 = .ok (.getfield 71, 3) := by decide +kernel
theorem dX6_become_149 : decode cX6_become 149 = .ok (.putfield 71, 3) := by decide +kernel
theorem dX6_become_152 : decode cX6_become 152 = .ok (.aload_n 0, 1) := by decide +kernel
theorem dX6_become_153 : decode cX6_become 153 = .ok (.aload_n 1, 1) := by decide +kernel
theorem dX6_become_154 : decode cX6_become 154 = .ok (.getfield 74, 3) := by decide +kernel
theorem dX6_become_157 : decode cX6_become 157 = .ok (.putfield 74, 3) := by decide +kernel
theorem dX6_become_160 : decode cX6_become 160 = .ok (.aload_n 0, 1) := by decide +kernel
theorem dX6_become_161 : decode cX6_become 161 = .ok (.aload_n 1, 1) := by decide +kernel
theorem dX6_become_162 : decode cX6_become 162 = .ok (.getfield 36, 3) := by decide +kernel
theorem dX6_become_165 : decode cX6_become 165 = .ok (.putfield 36, 3) := by decide +kernel
theorem dX6_become_168 : decode cX6_become 168 = .ok (.aload_n 0, 1) := by decide +kernel
theorem dX6_become_169 : decode cX6_become 169 = .ok (.aload_n 1, 1) := by decide +kernel
theorem dX6_become_170 : decode cX6_become 170 = .ok (.getfield 77, 3) := by decide +kernel
theorem dX6_become_173 : decode cX6_become 173 = .ok (.putfield 77, 3) := by decide +kernel
theorem dX6_become_176 : decode cX6_become 176 = .ok (.aload_n 0, 1) := by decide +kernel
theorem dX6_become_177 : decode cX6_become 177 = .ok (.aload_n 1, 1) := by decide +kernel
theorem dX6_become_178 : decode cX6_become 178 = .ok (.getfield 80, 3) := by decide +kernel
theorem dX6_become_181 : decode cX6_become 181 = .ok (.putfield 80, 3) := by decide +kernel
theorem dX6_become_184 : decode cX6_become 184 = .ok (.aload_n 0, 1) := by decide +kernel
theorem dX6_become_185 : decode cX6_become 185 = .ok (.aload_n 1, 1) := by decide +kernel
theorem dX6_become_186 : decode cX6_become 186 = .ok (.getfield 83, 3) := by decide +kernel
theorem dX6_become_189 : decode cX6_become 189 = .ok (.putfield 83, 3) := by decide +kernel
theorem dX6_become_192 : decode cX6_become 192 = .ok (.return_, 1) := by decide +kernel
theorem lf_RX6_43 : gLf RX6 43 6 4 := ⟨(RX6, TX6, 15), rfl, by decide, wA_t (wt2 (List.mem_of_getElem? (i := 16) (by decide +kernel))) (by decide +kernel), rfl⟩
theorem lf_RX6_11 : gLf RX6 11 6 0 := ⟨(RX6, TX6, 15), rfl, by decide, wA_t (wt2 (List.mem_of_getElem? (i := 7) (by decide +kernel))) (by decide +kernel), rfl⟩
theorem lv_RX6_46 : gLv RX6 46 RX9 yX9_become cX9_become 2 none 1 := gLv_of (wA_t (wt3 (List.mem_of_getElem? (i := 99) (by decide +kernel))) (by decide +kernel)) (wA_t (wt3 (List.mem_of_getElem? (i := 100) (by decide +kernel))) (by decide +kernel)) (wA_t (wt3 (List.mem_of_getElem? (i := 101) (by decide +kernel))) (by decide +kernel)) (wA_t (wt1 (List.mem_of_getElem? (i := 8) (by decide +kernel))) (by decide +kernel)) (wA_t (wt3 (List.mem_of_getElem? (i := 102) (by decide +kernel))) (by decide +kernel)) ⟨rfl, by decide +kernel, by decide +kernel, by decide +kernel⟩
theorem lf_RX6_50 : gLf RX6 50 6 5 := ⟨(RX6, TX6, 15), rfl, by decide, wA_t (wt2 (List.mem_of_getElem? (i := 19) (by decide +kernel))) (by decide +kernel), rfl⟩
theorem lf_RX6_19 : gLf RX6 19 6 1 := ⟨(RX6, TX6, 15), rfl, by decide, wA_t (wt2 (List.mem_of_getElem? (i := 9) (by decide +kernel))) (by decide +kernel), rfl⟩
theorem lv_RX6_53 : gLv RX6 53 RX5 yX5_become cX5_become 2 none 1 := gLv_of (wA_t (wt3 (List.mem_of_getElem? (i := 103) (by decide +kernel))) (by decide +kernel)) (wA_t (wt3 (List.mem_of_getElem? (i := 104) (by decide +kernel))) (by decide +kernel)) (wA_t (wt3 (List.mem_of_getElem? (i := 105) (by decide +kernel))) (by decide +kernel)) (wA_t (wt1 (List.mem_of_getElem? (i := 9) (by decide +kernel))) (by decide +kernel)) (wA_t (wt3 (List.mem_of_getElem? (i := 106) (by decide +kernel))) (by decide +kernel)) ⟨rfl, by decide +kernel, by decide +kernel, by decide +kernel⟩
theorem lf_RX6_56 : gLf RX6 56 6 6 := ⟨(RX6, TX6, 15), rfl, by decide, wA_t (wt2 (List.mem_of_getElem? (i := 22) (by decide +kernel))) (by decide +kernel), rfl⟩
theorem lf_RX6_25 : gLf RX6 25 6 2 := ⟨(RX6, TX6, 15), rfl, by decide, wA_t (wt2 (List.mem_of_getElem? (i := 12) (by decide +kernel))) (by decide +kernel), rfl⟩
theorem lv_RX6_59 : gLv RX6 59 RX4 yX4_become cX4_become 2 none 1 := gLv_of (wA_t (wt3 (List.mem_of_getElem? (i := 107) (by decide +kernel))) (by decide +kernel)) (wA_t (wt3 (List.mem_of_getElem? (i := 108) (by decide +kernel))) (by decide +kernel)) (wA_t (wt3 (List.mem_of_getElem? (i := 109) (by decide +kernel))) (by decide +kernel)) (wA_t (wt1 (List.mem_of_getElem? (i := 10) (by decide +kernel))) (by decide +kernel)) (wA_t (wt3 (List.mem_of_getElem? (i := 110) (by decide +kernel))) (by decide +kernel)) ⟨rfl, by decide +kernel, by decide +kernel, by decide +kernel⟩
theorem lf_RX6_32 : gLf RX6 32 6 3 := ⟨(RX6, TX6, 15), rfl, by decide, wA_t (wt2 (List.mem_of_getElem? (i := 14) (by decide +kernel))) (by decide +kernel), rfl⟩
theorem lv_RX6_62 : gLv RX6 62 RX0 yX0_become cX0_become 2 none 1 := gLv_of (wA_t (wt3 (List.mem_of_getElem? (i := 111) (by decide +kernel))) (by decide +kernel)) (wA_t (wt3 (List.mem_of_getElem? (i := 112) (by decide +kernel))) (by decide +kernel)) (wA_t (wt3 (List.mem_of_getElem? (i := 113) (by decide +kernel))) (by decide +kernel)) (wA_t (wt1 (List.mem_of_getElem? (i := 7) (by decide +kernel))) (by decide +kernel)) (wA_t (wt3 (List.mem_of_getElem? (i := 114) (by decide +kernel))) (by decide +kernel)) ⟨rfl, by decide +kernel, by decide +kernel, by decide +kernel⟩
theorem lp_RX6_43 : gLp RX6 43 6 4 := ⟨(RX6, TX6, 15), rfl, by decide, wA_t (wt2 (List.mem_of_getElem? (i := 16) (by decide +kernel))) (by decide +kernel), rfl, rfl⟩
theorem lp_RX6_50 : gLp RX6 50 6 5 := ⟨(RX6, TX6, 15), rfl, by decide, wA_t (wt2 (List.mem_of_getElem? (i := 19) (by decide +kernel))) (by decide +kernel), rfl, rfl⟩
theorem lp_RX6_56 : gLp RX6 56 6 6 := ⟨(RX6, TX6, 15), rfl, by decide, wA_t (wt2 (List.mem_of_getElem? (i := 22) (by decide +kernel))) (by decide +kernel), rfl, rfl⟩
theorem lf_RX6_65 : gLf RX6 65 6 7 := ⟨(RX6, TX6, 15), rfl, by decide, wA_t (wt2 (List.mem_of_getElem? (i := 25) (by decide +kernel))) (by decide +kernel), rfl⟩
theorem lp_RX6_65 : gLp RX6 65 6 7 := ⟨(RX6, TX6, 15), rfl, by decide, wA_t (wt2 (List.mem_of_getElem? (i := 25) (by decide +kernel))) (by decide +kernel), rfl, rfl⟩
theorem lf_RX6_68 : gLf RX6 68 6 8 := ⟨(RX6, TX6, 15), rfl, by decide, wA_t (wt2 (List.mem_of_getElem? (i := 27) (by decide +kernel))) (by decide +kernel), rfl⟩
theorem lp_RX6_68 : gLp RX6 68 6 8 := ⟨(RX6, TX6, 15), rfl, by decide, wA_t (wt2 (List.mem_of_getElem? (i := 27) (by decide +kernel))) (by decide +kernel), rfl, rfl⟩
theorem lf_RX6_71 : gLf RX6 71 6 9 := ⟨(RX6, TX6, 15), rfl, by decide, wA_t (wt2 (List.mem_of_getElem? (i := 30) (by decide +kernel))) (by decide +kernel), rfl⟩
theorem lp_RX6_71 : gLp RX6 71 6 9 := ⟨(RX6, TX6, 15), rfl, by decide, wA_t (wt2 (List.mem_of_getElem? (i := 30) (by decide +kernel))) (by decide +kernel), rfl, rfl⟩
theorem lf_RX6_74 : gLf RX6 74 6 10 := ⟨(RX6, TX6, 15), rfl, by decide, wA_t (wt2 (List.mem_of_getElem? (i := 33) (by decide +kernel))) (by decide +kernel), rfl⟩
theorem lp_RX6_74 : gLp RX6 74 6 10 := ⟨(RX6, TX6, 15), rfl, by decide, wA_t (wt2 (List.mem_of_getElem? (i := 33) (by decide +kernel))) (by decide +kernel), rfl, rfl⟩
theorem lf_RX6_36 : gLf RX6 36 6 11 := ⟨(RX6, TX6, 15), rfl, by decide, wA_t (wt2 (List.mem_of_getElem? (i := 35) (by decide +kernel))) (by decide +kernel), rfl⟩
theorem lp_RX6_36 : gLp RX6 36 6 11 := ⟨(RX6, TX6, 15), rfl, by decide, wA_t (wt2 (List.mem_of_getElem? (i := 35) (by decide +kernel))) (by decide +kernel), rfl, rfl⟩
theorem lf_RX6_77 : gLf RX6 77 6 12 := ⟨(RX6, TX6, 15), rfl, by decide, wA_t (wt2 (List.mem_of_getElem? (i := 37) (by decide +kernel))) (by decide +kernel), rfl⟩
theorem lp_RX6_77 : gLp RX6 77 6 12 := ⟨(RX6, TX6, 15), rfl, by decide, wA_t (wt2 (List.mem_of_getElem? (i := 37) (by decide +kernel))) (by decide +kernel), rfl, rfl⟩
theorem lf_RX6_80 : gLf RX6 80 6 13 := ⟨(RX6, TX6, 15), rfl, by decide, wA_t (wt2 (List.mem_of_getElem? (i := 39) (by decide +kernel))) (by decide +kernel), rfl⟩
theorem lp_RX6_80 : gLp RX6 80 6 13 := ⟨(RX6, TX6, 15), rfl, by decide, wA_t (wt2 (List.mem_of_getElem? (i := 39) (by decide +kernel))) (by decide +kernel), rfl, rfl⟩
theorem lf_RX6_83 : gLf RX6 83 6 14 := ⟨(RX6, TX6, 15), rfl, by decide, wA_t (wt2 (List.mem_of_getElem? (i := 41) (by decide +kernel))) (by decide +kernel), rfl⟩
theorem lp_RX6_83 : gLp RX6 83 6 14 := ⟨(RX6, TX6, 15), rfl, by decide, wA_t (wt2 (List.mem_of_getElem? (i := 41) (by decide +kernel))) (by decide +kernel), rfl, rfl⟩
def rm_X6_become : Room := { frames := 2, cells := 0, slots := 0, locals := 61 }
def b_X6_become_2 (τ : gτ) (n : Nat) (x0 : Nat) (x1 : Nat) (x2 : Int32) (G : gG) : Option ((Int32 × gG) ⊕ ((gG))) :=
  if (gi G 6 4 x1) ≤ x2 then (some (.inr G))
  else ((gr G 6 0 x0).bind fun a1 =>
  gchk (gIn x2 (gn τ a1)) <| (gq G a1 (Int32.toNatClampNeg x2)).bind fun a2 =>
  (gr G 6 0 x1).bind fun a3 =>
  gchk (gIn x2 (gn τ a3)) <| (gq G a3 (Int32.toNatClampNeg x2)).bind fun a4 =>
  (f_X9_become a2 a4 G).bind fun G5 =>
  gLet (x2 + 1) fun v6 =>
  some (.inl (v6, G5)))
def l_X6_become_2 (τ : gτ) (n : Nat) (x0 : Nat) (x1 : Nat) (x2 : Int32) (G : gG) : Option ((gG)) :=
  gIter (fun (q : Int32 × gG) => b_X6_become_2 τ n x0 x1 q.1 q.2) n (x2, G)
def b_X6_become_33 (τ : gτ) (n : Nat) (x0 : Nat) (x1 : Nat) (x2 : Int32) (G : gG) : Option ((Int32 × gG) ⊕ ((gG))) :=
  if (gi G 6 5 x1) ≤ x2 then (some (.inr G))
  else ((gr G 6 1 x0).bind fun a8 =>
  gchk (gIn x2 (gn τ a8)) <| (gq G a8 (Int32.toNatClampNeg x2)).bind fun a9 =>
  (gr G 6 1 x1).bind fun a10 =>
  gchk (gIn x2 (gn τ a10)) <| (gq G a10 (Int32.toNatClampNeg x2)).bind fun a11 =>
  (f_X5_become a9 a11 G).bind fun G12 =>
  gLet (x2 + 1) fun v13 =>
  some (.inl (v13, G12)))
def l_X6_become_33 (τ : gτ) (n : Nat) (x0 : Nat) (x1 : Nat) (x2 : Int32) (G : gG) : Option ((gG)) :=
  gIter (fun (q : Int32 × gG) => b_X6_become_33 τ n x0 x1 q.1 q.2) n (x2, G)
def b_X6_become_64 (τ : gτ) (n : Nat) (x0 : Nat) (x1 : Nat) (x2 : Int32) (G : gG) : Option ((Int32 × gG) ⊕ ((gG))) :=
  if (gi G 6 6 x1) ≤ x2 then (some (.inr G))
  else ((gr G 6 2 x0).bind fun a15 =>
  gchk (gIn x2 (gn τ a15)) <| (gq G a15 (Int32.toNatClampNeg x2)).bind fun a16 =>
  (gr G 6 2 x1).bind fun a17 =>
  gchk (gIn x2 (gn τ a17)) <| (gq G a17 (Int32.toNatClampNeg x2)).bind fun a18 =>
  (f_X4_become a16 a18 G).bind fun G19 =>
  gLet (x2 + 1) fun v20 =>
  some (.inl (v20, G19)))
def l_X6_become_64 (τ : gτ) (n : Nat) (x0 : Nat) (x1 : Nat) (x2 : Int32) (G : gG) : Option ((gG)) :=
  gIter (fun (q : Int32 × gG) => b_X6_become_64 τ n x0 x1 q.1 q.2) n (x2, G)
def k_X6_become_93 (τ : gτ) (n : Nat) (x0 : Nat) (x1 : Nat)  (G : gG) : Option (gG) :=
  (gr G 6 3 x0).bind fun a22 =>
  (gr G 6 3 x1).bind fun a23 =>
  (f_X0_become τ a22 a23 G).bind fun G24 =>
  gLet (gsi G24 6 4 x0 (gi G24 6 4 x1)) fun G25 =>
  gLet (gsi G25 6 5 x0 (gi G25 6 5 x1)) fun G26 =>
  gLet (gsi G26 6 6 x0 (gi G26 6 6 x1)) fun G27 =>
  gLet (gsi G27 6 7 x0 (gi G27 6 7 x1)) fun G28 =>
  gLet (gsi G28 6 8 x0 (gi G28 6 8 x1)) fun G29 =>
  gLet (gsi G29 6 9 x0 (gi G29 6 9 x1)) fun G30 =>
  gLet (gsi G30 6 10 x0 (gi G30 6 10 x1)) fun G31 =>
  gLet (gsi G31 6 11 x0 (gi G31 6 11 x1)) fun G32 =>
  gLet (gsi G32 6 12 x0 (gi G32 6 12 x1)) fun G33 =>
  gLet (gsi G33 6 13 x0 (gi G33 6 13 x1)) fun G34 =>
  gLet (gsi G34 6 14 x0 (gi G34 6 14 x1)) fun G35 =>
  some G35
def k_X6_become_62 (τ : gτ) (n : Nat) (x0 : Nat) (x1 : Nat)  (G : gG) : Option (gG) :=
  (l_X6_become_64 τ n x0 x1 (0 : Int32) G).bind fun q => gLet q fun G21 => 
  k_X6_become_93 τ n x0 x1  G21
def k_X6_become_31 (τ : gτ) (n : Nat) (x0 : Nat) (x1 : Nat)  (G : gG) : Option (gG) :=
  (l_X6_become_33 τ n x0 x1 (0 : Int32) G).bind fun q => gLet q fun G14 => 
  k_X6_become_62 τ n x0 x1  G14
def f_X6_become (τ : gτ) (n : Nat) (x0 : Nat) (x1 : Nat) (G : gG) : Option (gG) :=
  (l_X6_become_2 τ n x0 x1 (0 : Int32) G).bind fun q => gLet q fun G7 => 
  k_X6_become_31 τ n x0 x1  G7
set_option maxHeartbeats 4000000 in
set_option maxRecDepth 100000 in
theorem w_b_X6_become_2 {X : gX} {τ : gτ} {p : Program} {l : Launch} {e : Env} {s : State} {m : MethodId} {args : Array Value} {below : List Frame} {meth : Method} {c : Code} (fx : gFx X p s m args meth c cX6_become 3 RX6) (n : Nat) (x0 : Nat) (x1 : Nat) (x2 : Int32) (h0 : gK τ x0 6) (h1 : gK τ x1 6) {Q : State → Prop} {K : ((Int32 × gG) ⊕ ((gG))) → Prop} {G : gG} {H : Heap} {locs : List Loc} {ls : Array Slot} (hw : gHw X τ G H locs) (hl : lv_has ls 3 [(0, .ref x0), (1, .ref x1), (2, .int x2)]) (hok : gOk (b_X6_become_2 τ n x0 x1 x2 G) K) (hc : ∀ (y2 : Int32) (G : gG) (H : Heap) (locs : List Loc) (ls : Array Slot), gHw X τ G H locs → lv_has ls 3 [(0, .ref x0), (1, .ref x1), (2, .int y2)] → K (.inl (y2, G)) → W p l e rm_X6_become s m args below meth c H locs 0 0 Q (F0 m 2 ls [])) (hx0 : ∀ (G : gG) (H : Heap) (locs : List Loc) (ls : Array Slot), gHw X τ G H locs → lv_has ls 3 [(0, .ref x0), (1, .ref x1)] → K (.inr G) → W p l e rm_X6_become s m args below meth c H locs 0 0 Q (F0 m 31 ls [])) : W p l e rm_X6_become s m args below meth c H locs 0 0 Q (F0 m 2 ls []) := by
  unfold b_X6_become_2 at hok
  refine lv_iload_n fx.1 fx.2.1 dX6_become_2 rfl (lv_at hl 2 rfl) ?_
  refine lv_aload_n fx.1 fx.2.1 dX6_become_3 rfl (lv_at hl 1 rfl) ?_
  refine g_geti fx hw h1 lf_RX6_43 rfl dX6_become_4 ?_
  refine g_icmp_ge (tgt := 31) fx dX6_become_7 (by decide) hok (fun hok => ?_) (fun hok => ?_)
  · exact hx0  G _ _ _  hw (lv_sub hl [0, 1] rfl) (gOk_some hok)
  · refine lv_aload_n fx.1 fx.2.1 dX6_become_10 rfl (lv_at hl 0 rfl) ?_
    refine g_getr fx hw h0 lf_RX6_11 rfl dX6_become_11 hok (fun a1 h_a1 hok => ?_)
    refine lv_iload_n fx.1 fx.2.1 dX6_become_14 rfl (lv_at hl 2 rfl) ?_
    refine g_aald fx hw 17 5 h_a1 (by decide) (by decide) rfl (κ' := 9) rfl dX6_become_15 hok (fun a2 h_a2 hok => ?_)
    refine lv_aload_n fx.1 fx.2.1 dX6_become_16 rfl (lv_at hl 1 rfl) ?_
    refine g_getr fx hw h1 lf_RX6_11 rfl dX6_become_17 hok (fun a3 h_a3 hok => ?_)
    refine lv_iload_n fx.1 fx.2.1 dX6_become_20 rfl (lv_at hl 2 rfl) ?_
    refine g_aald fx hw 17 5 h_a3 (by decide) (by decide) rfl (κ' := 9) rfl dX6_become_21 hok (fun a4 h_a4 hok => ?_)
    obtain ⟨G5, hf, hok⟩ := gOk_bind hok
    refine g_callV0 (κ := 9) fx hw (c_X9_become l X τ a2 a4 G h_a2 h_a4 hf) lv_RX6_46 ⟨rfl, rfl⟩ rfl rfl h_a2 rfl hl.1 rfl ⟨Nat.le_of_ble_eq_true rfl, Nat.le_of_ble_eq_true rfl⟩ (Nat.le_of_ble_eq_true rfl) ⟨Nat.le_of_ble_eq_true rfl, Nat.le_of_ble_eq_true rfl⟩ dX6_become_22 (fun H locs hw => ?_)
    obtain ⟨v6, e_v6, hok⟩ := gOk_let hok
    refine lv_iinc (v := v6) (lv' := [(2, .int v6), (0, .ref x0), (1, .ref x1)]) fx.1 fx.2.1 dX6_become_25 hl (k := 2) rfl (by rw [e_v6]; rfl) (by decide) rfl (fun ls hl => ?_)
    refine lv_goto (tgt := 2) fx.1 fx.2.1 dX6_become_28 (by decide) ?_
    exact hc v6 G5 _ _ _  hw (lv_sub hl [1, 2, 0] rfl) (gOk_some hok)
theorem w_l_X6_become_2 {X : gX} {τ : gτ} {p : Program} {l : Launch} {e : Env} {s : State} {m : MethodId} {args : Array Value} {below : List Frame} {meth : Method} {c : Code} (fx : gFx X p s m args meth c cX6_become 3 RX6) (n : Nat) (x0 : Nat) (x1 : Nat) (h0 : gK τ x0 6) (h1 : gK τ x1 6) {Q : State → Prop} {K : ((gG)) → Prop} (hx0 : ∀ (G : gG) (H : Heap) (locs : List Loc) (ls : Array Slot), gHw X τ G H locs → lv_has ls 3 [(0, .ref x0), (1, .ref x1)] → K G → W p l e rm_X6_become s m args below meth c H locs 0 0 Q (F0 m 31 ls [])) : ∀ (k : Nat) (x2 : Int32) (G : gG) (H : Heap) (locs : List Loc) (ls : Array Slot), gHw X τ G H locs → lv_has ls 3 [(0, .ref x0), (1, .ref x1), (2, .int x2)] → gOk (gIter (fun (q : Int32 × gG) => b_X6_become_2 τ n x0 x1 q.1 q.2) k (x2, G)) K → W p l e rm_X6_become s m args below meth c H locs 0 0 Q (F0 m 2 ls []) := by
  intro k
  induction k with
  | zero =>
    intro x2 G H locs ls hw hl hok
    exact gOk_iter0 hok
  | succ k hc =>
    intro x2 G H locs ls hw hl hok
    exact w_b_X6_become_2 fx n x0 x1 x2 h0 h1 hw hl (gOk_iter hok) hc hx0
set_option maxHeartbeats 4000000 in
set_option maxRecDepth 100000 in
theorem w_b_X6_become_33 {X : gX} {τ : gτ} {p : Program} {l : Launch} {e : Env} {s : State} {m : MethodId} {args : Array Value} {below : List Frame} {meth : Method} {c : Code} (fx : gFx X p s m args meth c cX6_become 3 RX6) (n : Nat) (x0 : Nat) (x1 : Nat) (x2 : Int32) (h0 : gK τ x0 6) (h1 : gK τ x1 6) {Q : State → Prop} {K : ((Int32 × gG) ⊕ ((gG))) → Prop} {G : gG} {H : Heap} {locs : List Loc} {ls : Array Slot} (hw : gHw X τ G H locs) (hl : lv_has ls 3 [(0, .ref x0), (1, .ref x1), (2, .int x2)]) (hok : gOk (b_X6_become_33 τ n x0 x1 x2 G) K) (hc : ∀ (y2 : Int32) (G : gG) (H : Heap) (locs : List Loc) (ls : Array Slot), gHw X τ G H locs → lv_has ls 3 [(0, .ref x0), (1, .ref x1), (2, .int y2)] → K (.inl (y2, G)) → W p l e rm_X6_become s m args below meth c H locs 0 0 Q (F0 m 33 ls [])) (hx0 : ∀ (G : gG) (H : Heap) (locs : List Loc) (ls : Array Slot), gHw X τ G H locs → lv_has ls 3 [(0, .ref x0), (1, .ref x1)] → K (.inr G) → W p l e rm_X6_become s m args below meth c H locs 0 0 Q (F0 m 62 ls [])) : W p l e rm_X6_become s m args below meth c H locs 0 0 Q (F0 m 33 ls []) := by
  unfold b_X6_become_33 at hok
  refine lv_iload_n fx.1 fx.2.1 dX6_become_33 rfl (lv_at hl 2 rfl) ?_
  refine lv_aload_n fx.1 fx.2.1 dX6_become_34 rfl (lv_at hl 1 rfl) ?_
  refine g_geti fx hw h1 lf_RX6_50 rfl dX6_become_35 ?_
  refine g_icmp_ge (tgt := 62) fx dX6_become_38 (by decide) hok (fun hok => ?_) (fun hok => ?_)
  · exact hx0  G _ _ _  hw (lv_sub hl [0, 1] rfl) (gOk_some hok)
  · refine lv_aload_n fx.1 fx.2.1 dX6_become_41 rfl (lv_at hl 0 rfl) ?_
    refine g_getr fx hw h0 lf_RX6_19 rfl dX6_become_42 hok (fun a8 h_a8 hok => ?_)
    refine lv_iload_n fx.1 fx.2.1 dX6_become_45 rfl (lv_at hl 2 rfl) ?_
    refine g_aald fx hw 15 3 h_a8 (by decide) (by decide) rfl (κ' := 5) rfl dX6_become_46 hok (fun a9 h_a9 hok => ?_)
    refine lv_aload_n fx.1 fx.2.1 dX6_become_47 rfl (lv_at hl 1 rfl) ?_
    refine g_getr fx hw h1 lf_RX6_19 rfl dX6_become_48 hok (fun a10 h_a10 hok => ?_)
    refine lv_iload_n fx.1 fx.2.1 dX6_become_51 rfl (lv_at hl 2 rfl) ?_
    refine g_aald fx hw 15 3 h_a10 (by decide) (by decide) rfl (κ' := 5) rfl dX6_become_52 hok (fun a11 h_a11 hok => ?_)
    obtain ⟨G12, hf, hok⟩ := gOk_bind hok
    refine g_callV0 (κ := 5) fx hw (c_X5_become l X τ a9 a11 G h_a9 h_a11 hf) lv_RX6_53 ⟨rfl, rfl⟩ rfl rfl h_a9 rfl hl.1 rfl ⟨Nat.le_of_ble_eq_true rfl, Nat.le_of_ble_eq_true rfl⟩ (Nat.le_of_ble_eq_true rfl) ⟨Nat.le_of_ble_eq_true rfl, Nat.le_of_ble_eq_true rfl⟩ dX6_become_53 (fun H locs hw => ?_)
    obtain ⟨v13, e_v13, hok⟩ := gOk_let hok
    refine lv_iinc (v := v13) (lv' := [(2, .int v13), (0, .ref x0), (1, .ref x1)]) fx.1 fx.2.1 dX6_become_56 hl (k := 2) rfl (by rw [e_v13]; rfl) (by decide) rfl (fun ls hl => ?_)
    refine lv_goto (tgt := 33) fx.1 fx.2.1 dX6_become_59 (by decide) ?_
    exact hc v13 G12 _ _ _  hw (lv_sub hl [1, 2, 0] rfl) (gOk_some hok)
theorem w_l_X6_become_33 {X : gX} {τ : gτ} {p : Program} {l : Launch} {e : Env} {s : State} {m : MethodId} {args : Array Value} {below : List Frame} {meth : Method} {c : Code} (fx : gFx X p s m args meth c cX6_become 3 RX6) (n : Nat) (x0 : Nat) (x1 : Nat) (h0 : gK τ x0 6) (h1 : gK τ x1 6) {Q : State → Prop} {K : ((gG)) → Prop} (hx0 : ∀ (G : gG) (H : Heap) (locs : List Loc) (ls : Array Slot), gHw X τ G H locs → lv_has ls 3 [(0, .ref x0), (1, .ref x1)] → K G → W p l e rm_X6_become s m args below meth c H locs 0 0 Q (F0 m 62 ls [])) : ∀ (k : Nat) (x2 : Int32) (G : gG) (H : Heap) (locs : List Loc) (ls : Array Slot), gHw X τ G H locs → lv_has ls 3 [(0, .ref x0), (1, .ref x1), (2, .int x2)] → gOk (gIter (fun (q : Int32 × gG) => b_X6_become_33 τ n x0 x1 q.1 q.2) k (x2, G)) K → W p l e rm_X6_become s m args below meth c H locs 0 0 Q (F0 m 33 ls []) := by
  intro k
  induction k with
  | zero =>
    intro x2 G H locs ls hw hl hok
    exact gOk_iter0 hok
  | succ k hc =>
    intro x2 G H locs ls hw hl hok
    exact w_b_X6_become_33 fx n x0 x1 x2 h0 h1 hw hl (gOk_iter hok) hc hx0
set_option maxHeartbeats 4000000 in
set_option maxRecDepth 100000 in
theorem w_b_X6_become_64 {X : gX} {τ : gτ} {p : Program} {l : Launch} {e : Env} {s : State} {m : MethodId} {args : Array Value} {below : List Frame} {meth : Method} {c : Code} (fx : gFx X p s m args meth c cX6_become 3 RX6) (n : Nat) (x0 : Nat) (x1 : Nat) (x2 : Int32) (h0 : gK τ x0 6) (h1 : gK τ x1 6) {Q : State → Prop} {K : ((Int32 × gG) ⊕ ((gG))) → Prop} {G : gG} {H : Heap} {locs : List Loc} {ls : Array Slot} (hw : gHw X τ G H locs) (hl : lv_has ls 3 [(0, .ref x0), (1, .ref x1), (2, .int x2)]) (hok : gOk (b_X6_become_64 τ n x0 x1 x2 G) K) (hc : ∀ (y2 : Int32) (G : gG) (H : Heap) (locs : List Loc) (ls : Array Slot), gHw X τ G H locs → lv_has ls 3 [(0, .ref x0), (1, .ref x1), (2, .int y2)] → K (.inl (y2, G)) → W p l e rm_X6_become s m args below meth c H locs 0 0 Q (F0 m 64 ls [])) (hx0 : ∀ (G : gG) (H : Heap) (locs : List Loc) (ls : Array Slot), gHw X τ G H locs → lv_has ls 3 [(0, .ref x0), (1, .ref x1)] → K (.inr G) → W p l e rm_X6_become s m args below meth c H locs 0 0 Q (F0 m 93 ls [])) : W p l e rm_X6_become s m args below meth c H locs 0 0 Q (F0 m 64 ls []) := by
  unfold b_X6_become_64 at hok
  refine lv_iload_n fx.1 fx.2.1 dX6_become_64 rfl (lv_at hl 2 rfl) ?_
  refine lv_aload_n fx.1 fx.2.1 dX6_become_65 rfl (lv_at hl 1 rfl) ?_
  refine g_geti fx hw h1 lf_RX6_56 rfl dX6_become_66 ?_
  refine g_icmp_ge (tgt := 93) fx dX6_become_69 (by decide) hok (fun hok => ?_) (fun hok => ?_)
  · exact hx0  G _ _ _  hw (lv_sub hl [0, 1] rfl) (gOk_some hok)
  · refine lv_aload_n fx.1 fx.2.1 dX6_become_72 rfl (lv_at hl 0 rfl) ?_
    refine g_getr fx hw h0 lf_RX6_25 rfl dX6_become_73 hok (fun a15 h_a15 hok => ?_)
    refine lv_iload_n fx.1 fx.2.1 dX6_become_76 rfl (lv_at hl 2 rfl) ?_
    refine g_aald fx hw 14 2 h_a15 (by decide) (by decide) rfl (κ' := 4) rfl dX6_become_77 hok (fun a16 h_a16 hok => ?_)
    refine lv_aload_n fx.1 fx.2.1 dX6_become_78 rfl (lv_at hl 1 rfl) ?_
    refine g_getr fx hw h1 lf_RX6_25 rfl dX6_become_79 hok (fun a17 h_a17 hok => ?_)
    refine lv_iload_n fx.1 fx.2.1 dX6_become_82 rfl (lv_at hl 2 rfl) ?_
    refine g_aald fx hw 14 2 h_a17 (by decide) (by decide) rfl (κ' := 4) rfl dX6_become_83 hok (fun a18 h_a18 hok => ?_)
    obtain ⟨G19, hf, hok⟩ := gOk_bind hok
    refine g_callV0 (κ := 4) fx hw (c_X4_become l X τ a16 a18 G h_a16 h_a18 hf) lv_RX6_59 ⟨rfl, rfl⟩ rfl rfl h_a16 rfl hl.1 rfl ⟨Nat.le_of_ble_eq_true rfl, Nat.le_of_ble_eq_true rfl⟩ (Nat.le_of_ble_eq_true rfl) ⟨Nat.le_of_ble_eq_true rfl, Nat.le_of_ble_eq_true rfl⟩ dX6_become_84 (fun H locs hw => ?_)
    obtain ⟨v20, e_v20, hok⟩ := gOk_let hok
    refine lv_iinc (v := v20) (lv' := [(2, .int v20), (0, .ref x0), (1, .ref x1)]) fx.1 fx.2.1 dX6_become_87 hl (k := 2) rfl (by rw [e_v20]; rfl) (by decide) rfl (fun ls hl => ?_)
    refine lv_goto (tgt := 64) fx.1 fx.2.1 dX6_become_90 (by decide) ?_
    exact hc v20 G19 _ _ _  hw (lv_sub hl [1, 2, 0] rfl) (gOk_some hok)
theorem w_l_X6_become_64 {X : gX} {τ : gτ} {p : Program} {l : Launch} {e : Env} {s : State} {m : MethodId} {args : Array Value} {below : List Frame} {meth : Method} {c : Code} (fx : gFx X p s m args meth c cX6_become 3 RX6) (n : Nat) (x0 : Nat) (x1 : Nat) (h0 : gK τ x0 6) (h1 : gK τ x1 6) {Q : State → Prop} {K : ((gG)) → Prop} (hx0 : ∀ (G : gG) (H : Heap) (locs : List Loc) (ls : Array Slot), gHw X τ G H locs → lv_has ls 3 [(0, .ref x0), (1, .ref x1)] → K G → W p l e rm_X6_become s m args below meth c H locs 0 0 Q (F0 m 93 ls [])) : ∀ (k : Nat) (x2 : Int32) (G : gG) (H : Heap) (locs : List Loc) (ls : Array Slot), gHw X τ G H locs → lv_has ls 3 [(0, .ref x0), (1, .ref x1), (2, .int x2)] → gOk (gIter (fun (q : Int32 × gG) => b_X6_become_64 τ n x0 x1 q.1 q.2) k (x2, G)) K → W p l e rm_X6_become s m args below meth c H locs 0 0 Q (F0 m 64 ls []) := by
  intro k
  induction k with
  | zero =>
    intro x2 G H locs ls hw hl hok
    exact gOk_iter0 hok
  | succ k hc =>
    intro x2 G H locs ls hw hl hok
    exact w_b_X6_become_64 fx n x0 x1 x2 h0 h1 hw hl (gOk_iter hok) hc hx0
set_option maxHeartbeats 4000000 in
set_option maxRecDepth 100000 in
theorem w_X6_become_93 {X : gX} {τ : gτ} {p : Program} {l : Launch} {e : Env} {s : State} {m : MethodId} {args : Array Value} {below : List Frame} {meth : Method} {c : Code} (fx : gFx X p s m args meth c cX6_become 3 RX6) (n : Nat) (x0 : Nat) (x1 : Nat)  (h0 : gK τ x0 6) (h1 : gK τ x1 6)  (hr : meth.sig.returnType = none) {G' : gG} {G : gG} {H : Heap} {locs : List Loc} {ls : Array Slot} (hw : gHw X τ G H locs) (hl : lv_has ls 3 [(0, .ref x0), (1, .ref x1)]) (hok : gOk (k_X6_become_93 τ n x0 x1  G) (fun q => q = G'))  : W p l e rm_X6_become s m args below meth c H locs 0 0 (MQ below (gQ X τ none G') args s 0 0 (gFree X)) (F0 m 93 ls []) := by
  unfold k_X6_become_93 at hok
  refine lv_aload_n fx.1 fx.2.1 dX6_become_93 rfl (lv_at hl 0 rfl) ?_
  refine g_getr fx hw h0 lf_RX6_32 rfl dX6_become_94 hok (fun a22 h_a22 hok => ?_)
  refine lv_aload_n fx.1 fx.2.1 dX6_become_97 rfl (lv_at hl 1 rfl) ?_
  refine g_getr fx hw h1 lf_RX6_32 rfl dX6_become_98 hok (fun a23 h_a23 hok => ?_)
  obtain ⟨G24, hf, hok⟩ := gOk_bind hok
  refine g_callV0 (κ := 0) fx hw (c_X0_become l X τ a22 a23 G h_a22 h_a23 hf) lv_RX6_62 ⟨rfl, rfl⟩ rfl rfl h_a22 rfl hl.1 rfl ⟨Nat.le_of_ble_eq_true rfl, Nat.le_of_ble_eq_true rfl⟩ (Nat.le_of_ble_eq_true rfl) ⟨Nat.le_of_ble_eq_true rfl, Nat.le_of_ble_eq_true rfl⟩ dX6_become_101 (fun H locs hw => ?_)
  refine lv_aload_n fx.1 fx.2.1 dX6_become_104 rfl (lv_at hl 0 rfl) ?_
  refine lv_aload_n fx.1 fx.2.1 dX6_become_105 rfl (lv_at hl 1 rfl) ?_
  refine g_geti fx hw h1 lf_RX6_43 rfl dX6_become_106 ?_
  refine g_puti fx hw h0 lp_RX6_43 rfl rfl dX6_become_109 hok (fun G25 H locs hw hok => ?_)
  refine lv_aload_n fx.1 fx.2.1 dX6_become_112 rfl (lv_at hl 0 rfl) ?_
  refine lv_aload_n fx.1 fx.2.1 dX6_become_113 rfl (lv_at hl 1 rfl) ?_
  refine g_geti fx hw h1 lf_RX6_50 rfl dX6_become_114 ?_
  refine g_puti fx hw h0 lp_RX6_50 rfl rfl dX6_become_117 hok (fun G26 H locs hw hok => ?_)
  refine lv_aload_n fx.1 fx.2.1 dX6_become_120 rfl (lv_at hl 0 rfl) ?_
  refine lv_aload_n fx.1 fx.2.1 dX6_become_121 rfl (lv_at hl 1 rfl) ?_
  refine g_geti fx hw h1 lf_RX6_56 rfl dX6_become_122 ?_
  refine g_puti fx hw h0 lp_RX6_56 rfl rfl dX6_become_125 hok (fun G27 H locs hw hok => ?_)
  refine lv_aload_n fx.1 fx.2.1 dX6_become_128 rfl (lv_at hl 0 rfl) ?_
  refine lv_aload_n fx.1 fx.2.1 dX6_become_129 rfl (lv_at hl 1 rfl) ?_
  refine g_geti fx hw h1 lf_RX6_65 rfl dX6_become_130 ?_
  refine g_puti fx hw h0 lp_RX6_65 rfl rfl dX6_become_133 hok (fun G28 H locs hw hok => ?_)
  refine lv_aload_n fx.1 fx.2.1 dX6_become_136 rfl (lv_at hl 0 rfl) ?_
  refine lv_aload_n fx.1 fx.2.1 dX6_become_137 rfl (lv_at hl 1 rfl) ?_
  refine g_geti fx hw h1 lf_RX6_68 rfl dX6_become_138 ?_
  refine g_puti fx hw h0 lp_RX6_68 rfl rfl dX6_become_141 hok (fun G29 H locs hw hok => ?_)
  refine lv_aload_n fx.1 fx.2.1 dX6_become_144 rfl (lv_at hl 0 rfl) ?_
  refine lv_aload_n fx.1 fx.2.1 dX6_become_145 rfl (lv_at hl 1 rfl) ?_
  refine g_geti fx hw h1 lf_RX6_71 rfl dX6_become_146 ?_
  refine g_puti fx hw h0 lp_RX6_71 rfl rfl dX6_become_149 hok (fun G30 H locs hw hok => ?_)
  refine lv_aload_n fx.1 fx.2.1 dX6_become_152 rfl (lv_at hl 0 rfl) ?_
  refine lv_aload_n fx.1 fx.2.1 dX6_become_153 rfl (lv_at hl 1 rfl) ?_
  refine g_geti fx hw h1 lf_RX6_74 rfl dX6_become_154 ?_
  refine g_puti fx hw h0 lp_RX6_74 rfl rfl dX6_become_157 hok (fun G31 H locs hw hok => ?_)
  refine lv_aload_n fx.1 fx.2.1 dX6_become_160 rfl (lv_at hl 0 rfl) ?_
  refine lv_aload_n fx.1 fx.2.1 dX6_become_161 rfl (lv_at hl 1 rfl) ?_
  refine g_geti fx hw h1 lf_RX6_36 rfl dX6_become_162 ?_
  refine g_puti fx hw h0 lp_RX6_36 rfl rfl dX6_become_165 hok (fun G32 H locs hw hok => ?_)
  refine lv_aload_n fx.1 fx.2.1 dX6_become_168 rfl (lv_at hl 0 rfl) ?_
  refine lv_aload_n fx.1 fx.2.1 dX6_become_169 rfl (lv_at hl 1 rfl) ?_
  refine g_geti fx hw h1 lf_RX6_77 rfl dX6_become_170 ?_
  refine g_puti fx hw h0 lp_RX6_77 rfl rfl dX6_become_173 hok (fun G33 H locs hw hok => ?_)
  refine lv_aload_n fx.1 fx.2.1 dX6_become_176 rfl (lv_at hl 0 rfl) ?_
  refine lv_aload_n fx.1 fx.2.1 dX6_become_177 rfl (lv_at hl 1 rfl) ?_
  refine g_geti fx hw h1 lf_RX6_80 rfl dX6_become_178 ?_
  refine g_puti fx hw h0 lp_RX6_80 rfl rfl dX6_become_181 hok (fun G34 H locs hw hok => ?_)
  refine lv_aload_n fx.1 fx.2.1 dX6_become_184 rfl (lv_at hl 0 rfl) ?_
  refine lv_aload_n fx.1 fx.2.1 dX6_become_185 rfl (lv_at hl 1 rfl) ?_
  refine g_geti fx hw h1 lf_RX6_83 rfl dX6_become_186 ?_
  refine g_puti fx hw h0 lp_RX6_83 rfl rfl dX6_become_189 hok (fun G35 H locs hw hok => ?_)
  cases gOk_some hok
  exact g_vret fx hw hr dX6_become_192
set_option maxHeartbeats 4000000 in
set_option maxRecDepth 100000 in
theorem w_X6_become_62 {X : gX} {τ : gτ} {p : Program} {l : Launch} {e : Env} {s : State} {m : MethodId} {args : Array Value} {below : List Frame} {meth : Method} {c : Code} (fx : gFx X p s m args meth c cX6_become 3 RX6) (n : Nat) (x0 : Nat) (x1 : Nat)  (h0 : gK τ x0 6) (h1 : gK τ x1 6)  (hr : meth.sig.returnType = none) {G' : gG} {G : gG} {H : Heap} {locs : List Loc} {ls : Array Slot} (hw : gHw X τ G H locs) (hl : lv_has ls 3 [(0, .ref x0), (1, .ref x1)]) (hok : gOk (k_X6_become_62 τ n x0 x1  G) (fun q => q = G'))  : W p l e rm_X6_become s m args below meth c H locs 0 0 (MQ below (gQ X τ none G') args s 0 0 (gFree X)) (F0 m 62 ls []) := by
  unfold k_X6_become_62 at hok
  refine lv_iconst (v := 0) fx.1 fx.2.1 dX6_become_62 (by decide) ?_
  refine lv_istore_n (lv' := [(2, .int (0 : Int32)), (0, .ref x0), (1, .ref x1)]) fx.1 fx.2.1 dX6_become_63 rfl hl (by decide) rfl (fun ls hl => ?_)
  refine w_l_X6_become_64 fx n x0 x1 h0 h1 ?_ n (0 : Int32) G _ _ _  hw (lv_sub hl [1, 2, 0] rfl) (gOk_bindK hok)
  intro G21 H locs ls hw hl hok
  have hok : gOk (ρ := gG) (k_X6_become_93 τ n x0 x1  G21) _ := hok
  exact w_X6_become_93 fx n x0 x1  h0 h1  hr hw (lv_sub hl [0, 1] rfl) hok
set_option maxHeartbeats 4000000 in
set_option maxRecDepth 100000 in
theorem w_X6_become_31 {X : gX} {τ : gτ} {p : Program} {l : Launch} {e : Env} {s : State} {m : MethodId} {args : Array Value} {below : List Frame} {meth : Method} {c : Code} (fx : gFx X p s m args meth c cX6_become 3 RX6) (n : Nat) (x0 : Nat) (x1 : Nat)  (h0 : gK τ x0 6) (h1 : gK τ x1 6)  (hr : meth.sig.returnType = none) {G' : gG} {G : gG} {H : Heap} {locs : List Loc} {ls : Array Slot} (hw : gHw X τ G H locs) (hl : lv_has ls 3 [(0, .ref x0), (1, .ref x1)]) (hok : gOk (k_X6_become_31 τ n x0 x1  G) (fun q => q = G'))  : W p l e rm_X6_become s m args below meth c H locs 0 0 (MQ below (gQ X τ none G') args s 0 0 (gFree X)) (F0 m 31 ls []) := by
  unfold k_X6_become_31 at hok
  refine lv_iconst (v := 0) fx.1 fx.2.1 dX6_become_31 (by decide) ?_
  refine lv_istore_n (lv' := [(2, .int (0 : Int32)), (0, .ref x0), (1, .ref x1)]) fx.1 fx.2.1 dX6_become_32 rfl hl (by decide) rfl (fun ls hl => ?_)
  refine w_l_X6_become_33 fx n x0 x1 h0 h1 ?_ n (0 : Int32) G _ _ _  hw (lv_sub hl [1, 2, 0] rfl) (gOk_bindK hok)
  intro G14 H locs ls hw hl hok
  have hok : gOk (ρ := gG) (k_X6_become_62 τ n x0 x1  G14) _ := hok
  exact w_X6_become_62 fx n x0 x1  h0 h1  hr hw (lv_sub hl [0, 1] rfl) hok
set_option maxHeartbeats 4000000 in
set_option maxRecDepth 100000 in
theorem c_X6_become (l : Launch) (X : gX) (τ : gτ) (n : Nat) (x0 : Nat) (x1 : Nat) (G : gG) (h0 : gK τ x0 6) (h1 : gK τ x1 6) {G' : gG} (h : f_X6_become τ n x0 x1 G = some G') : gM l X τ yX6_become cX6_become 3 none rm_X6_become [.ref x0, .ref x1] G none G' := by
  refine g_body (by decide +kernel) (Nat.le_of_ble_eq_true rfl) ?_
  intro p e s m args below meth c ls fx hr hw hl
  have fx : gFx X p s m args meth c cX6_become 3 RX6 := fx
  have hl : lv_has ls 3 [(0, .ref x0), (1, .ref x1)] := hl
  have hok : gOk (f_X6_become τ n x0 x1 G) (fun q => q = G') := ⟨_, h, rfl⟩
  unfold f_X6_become at hok
  show W p l e rm_X6_become s m args below meth c s.heap [] 0 0 (MQ below (gQ X τ none G') args s 0 0 (gFree X)) _
  refine lv_iconst (v := 0) fx.1 fx.2.1 dX6_become_0 (by decide) ?_
  refine lv_istore_n (lv' := [(2, .int (0 : Int32)), (0, .ref x0), (1, .ref x1)]) fx.1 fx.2.1 dX6_become_1 rfl hl (by decide) rfl (fun ls hl => ?_)
  refine w_l_X6_become_2 fx n x0 x1 h0 h1 ?_ n (0 : Int32) G _ _ _  hw (lv_sub hl [1, 2, 0] rfl) (gOk_bindK hok)
  intro G7 H locs ls hw hl hok
  have hok : gOk (ρ := gG) (k_X6_become_31 τ n x0 x1  G7) _ := hok
  exact w_X6_become_31 fx n x0 x1  h0 h1  hr hw (lv_sub hl [0, 1] rfl) hok
theorem dX3_keep_0 : decode cX3_keep 0 = .ok (.aload_n 0, 1) := by decide +kernel
theorem dX3_keep_1 : decode cX3_keep 1 = .ok (.getfield 11, 3) := by decide +kernel
theorem dX3_keep_4 : decode cX3_keep 4 = .ok (.aload_n 0, 1) := by decide +kernel
theorem dX3_keep_5 : decode cX3_keep 5 = .ok (.getfield 18, 3) := by decide +kernel
theorem dX3_keep_8 : decode cX3_keep 8 = .ok (.aaload, 1) := by decide +kernel
theorem dX3_keep_9 : decode cX3_keep 9 = .ok (.aload_n 1, 1) := by decide +kernel
theorem dX3_keep_10 : decode cX3_keep 10 = .ok (.invokevirtual 22, 3) := by decide +kernel
theorem dX3_keep_13 : decode cX3_keep 13 = .ok (.aload_n 0, 1) := by decide +kernel
theorem dX3_keep_14 : decode cX3_keep 14 = .ok (.aload_n 0, 1) := by decide +kernel
theorem dX3_keep_15 : decode cX3_keep 15 = .ok (.getfield 18, 3) := by decide +kernel
theorem dX3_keep_18 : decode cX3_keep 18 = .ok (.iconst 1, 1) := by decide +kernel
theorem dX3_keep_19 : decode cX3_keep 19 = .ok (.iadd, 1) := by decide +kernel
theorem dX3_keep_20 : decode cX3_keep 20 = .ok (.bipush 12, 2) := by decide +kernel
theorem dX3_keep_22 : decode cX3_keep 22 = .ok (.irem, 1) := by decide +kernel
theorem dX3_keep_23 : decode cX3_keep 23 = .ok (.putfield 18, 3) := by decide +kernel
theorem dX3_keep_26 : decode cX3_keep 26 = .ok (.aload_n 0, 1) := by decide +kernel
theorem dX3_keep_27 : decode cX3_keep 27 = .ok (.aload_n 0, 1) := by decide +kernel
theorem dX3_keep_28 : decode cX3_keep 28 = .ok (.getfield 26, 3) := by decide +kernel
theorem dX3_keep_31 : decode cX3_keep 31 = .ok (.iconst 1, 1) := by decide +kernel
theorem dX3_keep_32 : decode cX3_keep 32 = .ok (.iadd, 1) := by decide +kernel
theorem dX3_keep_33 : decode cX3_keep 33 = .ok (.bipush 12, 2) := by decide +kernel
theorem dX3_keep_35 : decode cX3_keep 35 = .ok (.invokestatic 29, 3) := by decide +kernel
theorem dX3_keep_38 : decode cX3_keep 38 = .ok (.putfield 26, 3) := by decide +kernel
theorem dX3_keep_41 : decode cX3_keep 41 = .ok (.return_, 1) := by decide +kernel
theorem lf_RX3_11 : gLf RX3 11 3 0 := ⟨(RX3, TX3, 3), rfl, by decide, wA_t (wt2 (List.mem_of_getElem? (i := 74) (by decide +kernel))) (by decide +kernel), rfl⟩
theorem lf_RX3_18 : gLf RX3 18 3 2 := ⟨(RX3, TX3, 3), rfl, by decide, wA_t (wt2 (List.mem_of_getElem? (i := 77) (by decide +kernel))) (by decide +kernel), rfl⟩
theorem lv_RX3_22 : gLv RX3 22 RX6 yX6_become cX6_become 3 none 1 := gLv_of (wA_t (wt3 (List.mem_of_getElem? (i := 95) (by decide +kernel))) (by decide +kernel)) (wA_t (wt3 (List.mem_of_getElem? (i := 96) (by decide +kernel))) (by decide +kernel)) (wA_t (wt3 (List.mem_of_getElem? (i := 97) (by decide +kernel))) (by decide +kernel)) (wA_t (wt1 (List.mem_of_getElem? (i := 6) (by decide +kernel))) (by decide +kernel)) (wA_t (wt3 (List.mem_of_getElem? (i := 98) (by decide +kernel))) (by decide +kernel)) ⟨rfl, by decide +kernel, by decide +kernel, by decide +kernel⟩
theorem lp_RX3_18 : gLp RX3 18 3 2 := ⟨(RX3, TX3, 3), rfl, by decide, wA_t (wt2 (List.mem_of_getElem? (i := 77) (by decide +kernel))) (by decide +kernel), rfl, rfl⟩
theorem lf_RX3_26 : gLf RX3 26 3 1 := ⟨(RX3, TX3, 3), rfl, by decide, wA_t (wt2 (List.mem_of_getElem? (i := 75) (by decide +kernel))) (by decide +kernel), rfl⟩
theorem lm_RX3_29 : Cond.methodLink RX3 29 Lib.Math.min.name ∈ wA := wA_t (wt5 (List.mem_of_getElem? (i := 138) (by decide +kernel))) (by decide +kernel)
theorem lp_RX3_26 : gLp RX3 26 3 1 := ⟨(RX3, TX3, 3), rfl, by decide, wA_t (wt2 (List.mem_of_getElem? (i := 75) (by decide +kernel))) (by decide +kernel), rfl, rfl⟩
def rm_X3_keep : Room := { frames := 3, cells := 0, slots := 0, locals := 83 }
def f_X3_keep (τ : gτ) (n : Nat) (x0 : Nat) (x1 : Nat) (G : gG) : Option (gG) :=
  (gr G 3 0 x0).bind fun a1 =>
  gchk (gIn (gi G 3 2 x0) (gn τ a1)) <| (gq G a1 (Int32.toNatClampNeg (gi G 3 2 x0))).bind fun a2 =>
  (f_X6_become τ n a2 x1 G).bind fun G3 =>
  gLet (gsi G3 3 2 x0 (((gi G3 3 2 x0) + (1 : Int32)) - ((gi G3 3 2 x0) + (1 : Int32)) / (12 : Int32) * (12 : Int32))) fun G4 =>
  gLet (gsi G4 3 1 x0 (gmin ((gi G4 3 1 x0) + (1 : Int32)) (12 : Int32))) fun G5 =>
  some G5
set_option maxHeartbeats 4000000 in
set_option maxRecDepth 100000 in
theorem c_X3_keep (l : Launch) (X : gX) (τ : gτ) (n : Nat) (x0 : Nat) (x1 : Nat) (G : gG) (h0 : gK τ x0 3) (h1 : gK τ x1 6) {G' : gG} (h : f_X3_keep τ n x0 x1 G = some G') : gM l X τ yX3_keep cX3_keep 2 none rm_X3_keep [.ref x0, .ref x1] G none G' := by
  refine g_body (by decide +kernel) (Nat.le_of_ble_eq_true rfl) ?_
  intro p e s m args below meth c ls fx hr hw hl
  have fx : gFx X p s m args meth c cX3_keep 2 RX3 := fx
  have hl : lv_has ls 2 [(0, .ref x0), (1, .ref x1)] := hl
  have hok : gOk (f_X3_keep τ n x0 x1 G) (fun q => q = G') := ⟨_, h, rfl⟩
  unfold f_X3_keep at hok
  show W p l e rm_X3_keep s m args below meth c s.heap [] 0 0 (MQ below (gQ X τ none G') args s 0 0 (gFree X)) _
  refine lv_aload_n fx.1 fx.2.1 dX3_keep_0 rfl (lv_at hl 0 rfl) ?_
  refine g_getr fx hw h0 lf_RX3_11 rfl dX3_keep_1 hok (fun a1 h_a1 hok => ?_)
  refine lv_aload_n fx.1 fx.2.1 dX3_keep_4 rfl (lv_at hl 0 rfl) ?_
  refine g_geti fx hw h0 lf_RX3_18 rfl dX3_keep_5 ?_
  refine g_aald fx hw 16 4 h_a1 (by decide) (by decide) rfl (κ' := 6) rfl dX3_keep_8 hok (fun a2 h_a2 hok => ?_)
  refine lv_aload_n fx.1 fx.2.1 dX3_keep_9 rfl (lv_at hl 1 rfl) ?_
  obtain ⟨G3, hf, hok⟩ := gOk_bind hok
  refine g_callV0 (κ := 6) fx hw (c_X6_become l X τ n a2 x1 G h_a2 h1 hf) lv_RX3_22 ⟨rfl, rfl⟩ rfl rfl h_a2 rfl hl.1 rfl ⟨Nat.le_of_ble_eq_true rfl, Nat.le_of_ble_eq_true rfl⟩ (Nat.le_of_ble_eq_true rfl) ⟨Nat.le_of_ble_eq_true rfl, Nat.le_of_ble_eq_true rfl⟩ dX3_keep_10 (fun H locs hw => ?_)
  refine lv_aload_n fx.1 fx.2.1 dX3_keep_13 rfl (lv_at hl 0 rfl) ?_
  refine lv_aload_n fx.1 fx.2.1 dX3_keep_14 rfl (lv_at hl 0 rfl) ?_
  refine g_geti fx hw h0 lf_RX3_18 rfl dX3_keep_15 ?_
  refine lv_iconst (v := 1) fx.1 fx.2.1 dX3_keep_18 (by decide) ?_
  refine lv_iadd fx.1 fx.2.1 dX3_keep_19 ?_
  refine lv_bipush (v := 12) fx.1 fx.2.1 dX3_keep_20 (by decide) ?_
  refine lv_irem fx.1 fx.2.1 dX3_keep_22 (by decide) ?_
  refine g_puti fx hw h0 lp_RX3_18 rfl rfl dX3_keep_23 hok (fun G4 H locs hw hok => ?_)
  refine lv_aload_n fx.1 fx.2.1 dX3_keep_26 rfl (lv_at hl 0 rfl) ?_
  refine lv_aload_n fx.1 fx.2.1 dX3_keep_27 rfl (lv_at hl 0 rfl) ?_
  refine g_geti fx hw h0 lf_RX3_26 rfl dX3_keep_28 ?_
  refine lv_iconst (v := 1) fx.1 fx.2.1 dX3_keep_31 (by decide) ?_
  refine lv_iadd fx.1 fx.2.1 dX3_keep_32 ?_
  refine lv_bipush (v := 12) fx.1 fx.2.1 dX3_keep_33 (by decide) ?_
  refine g_mmin fx hl.1 lm_RX3_29 lmst_min lm_init lmco_min ⟨Nat.le_of_ble_eq_true rfl, Nat.le_of_ble_eq_true rfl, Nat.le_of_ble_eq_true rfl, Nat.le_of_ble_eq_true rfl⟩ dX3_keep_35 ?_
  refine g_puti fx hw h0 lp_RX3_26 rfl rfl dX3_keep_38 hok (fun G5 H locs hw hok => ?_)
  cases gOk_some hok
  exact g_vret fx hw hr dX3_keep_41
theorem dX3_recall_0 : decode cX3_recall 0 = .ok (.aload_n 0, 1) := by decide +kernel
theorem dX3_recall_1 : decode cX3_recall 1 = .ok (.getfield 26, 3) := by decide +kernel
theorem dX3_recall_4 : decode cX3_recall 4 = .ok (.ifCond .ne 5, 3) := by decide +kernel
theorem dX3_recall_7 : decode cX3_recall 7 = .ok (.iconst 0, 1) := by decide +kernel
theorem dX3_recall_8 : decode cX3_recall 8 = .ok (.ireturn, 1) := by decide +kernel
theorem dX3_recall_9 : decode cX3_recall 9 = .ok (.aload_n 0, 1) := by decide +kernel
theorem dX3_recall_10 : decode cX3_recall 10 = .ok (.dup, 1) := by decide +kernel
theorem dX3_recall_11 : decode cX3_recall 11 = .ok (.getfield 26, 3) := by decide +kernel
theorem dX3_recall_14 : decode cX3_recall 14 = .ok (.iconst 1, 1) := by decide +kernel
theorem dX3_recall_15 : decode cX3_recall 15 = .ok (.isub, 1) := by decide +kernel
theorem dX3_recall_16 : decode cX3_recall 16 = .ok (.putfield 26, 3) := by decide +kernel
theorem dX3_recall_19 : decode cX3_recall 19 = .ok (.aload_n 0, 1) := by decide +kernel
theorem dX3_recall_20 : decode cX3_recall 20 = .ok (.aload_n 0, 1) := by decide +kernel
theorem dX3_recall_21 : decode cX3_recall 21 = .ok (.getfield 18, 3) := by decide +kernel
theorem dX3_recall_24 : decode cX3_recall 24 = .ok (.bipush 12, 2) := by decide +kernel
theorem dX3_recall_26 : decode cX3_recall 26 = .ok (.iadd, 1) := by decide +kernel
theorem dX3_recall_27 : decode cX3_recall 27 = .ok (.iconst 1, 1) := by decide +kernel
theorem dX3_recall_28 : decode cX3_recall 28 = .ok (.isub, 1) := by decide +kernel
theorem dX3_recall_29 : decode cX3_recall 29 = .ok (.bipush 12, 2) := by decide +kernel
theorem dX3_recall_31 : decode cX3_recall 31 = .ok (.irem, 1) := by decide +kernel
theorem dX3_recall_32 : decode cX3_recall 32 = .ok (.putfield 18, 3) := by decide +kernel
theorem dX3_recall_35 : decode cX3_recall 35 = .ok (.aload_n 1, 1) := by decide +kernel
theorem dX3_recall_36 : decode cX3_recall 36 = .ok (.aload_n 0, 1) := by decide +kernel
theorem dX3_recall_37 : decode cX3_recall 37 = .ok (.getfield 11, 3) := by decide +kernel
theorem dX3_recall_40 : decode cX3_recall 40 = .ok (.aload_n 0, 1) := by decide +kernel
theorem dX3_recall_41 : decode cX3_recall 41 = .ok (.getfield 18, 3) := by decide +kernel
theorem dX3_recall_44 : decode cX3_recall 44 = .ok (.aaload, 1) := by decide +kernel
theorem dX3_recall_45 : decode cX3_recall 45 = .ok (.invokevirtual 22, 3) := by decide +kernel
theorem dX3_recall_48 : decode cX3_recall 48 = .ok (.iconst 1, 1) := by decide +kernel
theorem dX3_recall_49 : decode cX3_recall 49 = .ok (.ireturn, 1) := by decide +kernel
def rm_X3_recall : Room := { frames := 3, cells := 0, slots := 0, locals := 83 }
def f_X3_recall (τ : gτ) (n : Nat) (x0 : Nat) (x1 : Nat) (G : gG) : Option (Int32 × gG) :=
  if (gi G 3 1 x0) = 0 then (some (0, G))
  else (gLet (gsi G 3 1 x0 ((gi G 3 1 x0) - (1 : Int32))) fun G1 =>
  gLet (gsi G1 3 2 x0 ((((gi G1 3 2 x0) + (12 : Int32)) - (1 : Int32)) - (((gi G1 3 2 x0) + (12 : Int32)) - (1 : Int32)) / (12 : Int32) * (12 : Int32))) fun G2 =>
  (gr G2 3 0 x0).bind fun a3 =>
  gchk (gIn (gi G2 3 2 x0) (gn τ a3)) <| (gq G2 a3 (Int32.toNatClampNeg (gi G2 3 2 x0))).bind fun a4 =>
  (f_X6_become τ n x1 a4 G2).bind fun G5 =>
  some (1, G5))
set_option maxHeartbeats 4000000 in
set_option maxRecDepth 100000 in
theorem c_X3_recall (l : Launch) (X : gX) (τ : gτ) (n : Nat) (x0 : Nat) (x1 : Nat) (G : gG) (h0 : gK τ x0 3) (h1 : gK τ x1 6) {r : Int32} {G' : gG} (h : f_X3_recall τ n x0 x1 G = some (r, G')) : gM l X τ yX3_recall cX3_recall 2 (some .boolean) rm_X3_recall [.ref x0, .ref x1] G (some (.int r)) G' := by
  refine g_body (by decide +kernel) (Nat.le_of_ble_eq_true rfl) ?_
  intro p e s m args below meth c ls fx hr hw hl
  have fx : gFx X p s m args meth c cX3_recall 2 RX3 := fx
  have hl : lv_has ls 2 [(0, .ref x0), (1, .ref x1)] := hl
  have hok : gOk (f_X3_recall τ n x0 x1 G) (fun q => q = (r, G')) := ⟨_, h, rfl⟩
  unfold f_X3_recall at hok
  show W p l e rm_X3_recall s m args below meth c s.heap [] 0 0 (MQ below (gQ X τ (some (.int r)) G') args s 0 0 (gFree X)) _
  refine lv_aload_n fx.1 fx.2.1 dX3_recall_0 rfl (lv_at hl 0 rfl) ?_
  refine g_geti fx hw h0 lf_RX3_26 rfl dX3_recall_1 ?_
  refine g_if_ne (tgt := 9) fx dX3_recall_4 (by decide) hok (fun hok => ?_) (fun hok => ?_)
  · refine lv_iconst (v := 0) fx.1 fx.2.1 dX3_recall_7 (by decide) ?_
    cases gOk_some hok
    exact g_zret fx hw hr (by decide) dX3_recall_8
  · refine lv_aload_n fx.1 fx.2.1 dX3_recall_9 rfl (lv_at hl 0 rfl) ?_
    refine lv_dup fx.1 fx.2.1 dX3_recall_10 rfl ?_
    refine g_geti fx hw h0 lf_RX3_26 rfl dX3_recall_11 ?_
    refine lv_iconst (v := 1) fx.1 fx.2.1 dX3_recall_14 (by decide) ?_
    refine lv_isub fx.1 fx.2.1 dX3_recall_15 ?_
    refine g_puti fx hw h0 lp_RX3_26 rfl rfl dX3_recall_16 hok (fun G1 H locs hw hok => ?_)
    refine lv_aload_n fx.1 fx.2.1 dX3_recall_19 rfl (lv_at hl 0 rfl) ?_
    refine lv_aload_n fx.1 fx.2.1 dX3_recall_20 rfl (lv_at hl 0 rfl) ?_
    refine g_geti fx hw h0 lf_RX3_18 rfl dX3_recall_21 ?_
    refine lv_bipush (v := 12) fx.1 fx.2.1 dX3_recall_24 (by decide) ?_
    refine lv_iadd fx.1 fx.2.1 dX3_recall_26 ?_
    refine lv_iconst (v := 1) fx.1 fx.2.1 dX3_recall_27 (by decide) ?_
    refine lv_isub fx.1 fx.2.1 dX3_recall_28 ?_
    refine lv_bipush (v := 12) fx.1 fx.2.1 dX3_recall_29 (by decide) ?_
    refine lv_irem fx.1 fx.2.1 dX3_recall_31 (by decide) ?_
    refine g_puti fx hw h0 lp_RX3_18 rfl rfl dX3_recall_32 hok (fun G2 H locs hw hok => ?_)
    refine lv_aload_n fx.1 fx.2.1 dX3_recall_35 rfl (lv_at hl 1 rfl) ?_
    refine lv_aload_n fx.1 fx.2.1 dX3_recall_36 rfl (lv_at hl 0 rfl) ?_
    refine g_getr fx hw h0 lf_RX3_11 rfl dX3_recall_37 hok (fun a3 h_a3 hok => ?_)
    refine lv_aload_n fx.1 fx.2.1 dX3_recall_40 rfl (lv_at hl 0 rfl) ?_
    refine g_geti fx hw h0 lf_RX3_18 rfl dX3_recall_41 ?_
    refine g_aald fx hw 16 4 h_a3 (by decide) (by decide) rfl (κ' := 6) rfl dX3_recall_44 hok (fun a4 h_a4 hok => ?_)
    obtain ⟨G5, hf, hok⟩ := gOk_bind hok
    refine g_callV0 (κ := 6) fx hw (c_X6_become l X τ n x1 a4 G2 h1 h_a4 hf) lv_RX3_22 ⟨rfl, rfl⟩ rfl rfl h1 rfl hl.1 rfl ⟨Nat.le_of_ble_eq_true rfl, Nat.le_of_ble_eq_true rfl⟩ (Nat.le_of_ble_eq_true rfl) ⟨Nat.le_of_ble_eq_true rfl, Nat.le_of_ble_eq_true rfl⟩ dX3_recall_45 (fun H locs hw => ?_)
    refine lv_iconst (v := 1) fx.1 fx.2.1 dX3_recall_48 (by decide) ?_
    cases gOk_some hok
    exact g_zret fx hw hr (by decide) dX3_recall_49
theorem dX3_forget_0 : decode cX3_forget 0 = .ok (.aload_n 0, 1) := by decide +kernel
theorem dX3_forget_1 : decode cX3_forget 1 = .ok (.iconst 0, 1) := by decide +kernel
theorem dX3_forget_2 : decode cX3_forget 2 = .ok (.putfield 26, 3) := by decide +kernel
theorem dX3_forget_5 : decode cX3_forget 5 = .ok (.return_, 1) := by decide +kernel
def rm_X3_forget : Room := { frames := 0, cells := 0, slots := 0, locals := 0 }
def f_X3_forget (x0 : Nat) (G : gG) : Option (gG) :=
  gLet (gsi G 3 1 x0 (0 : Int32)) fun G1 =>
  some G1
set_option maxHeartbeats 4000000 in
set_option maxRecDepth 100000 in
theorem c_X3_forget (l : Launch) (X : gX) (τ : gτ) (x0 : Nat) (G : gG) (h0 : gK τ x0 3) {G' : gG} (h : f_X3_forget x0 G = some G') : gM l X τ yX3_forget cX3_forget 1 none rm_X3_forget [.ref x0] G none G' := by
  refine g_body (by decide +kernel) (Nat.le_of_ble_eq_true rfl) ?_
  intro p e s m args below meth c ls fx hr hw hl
  have fx : gFx X p s m args meth c cX3_forget 1 RX3 := fx
  have hl : lv_has ls 1 [(0, .ref x0)] := hl
  have hok : gOk (f_X3_forget x0 G) (fun q => q = G') := ⟨_, h, rfl⟩
  unfold f_X3_forget at hok
  show W p l e rm_X3_forget s m args below meth c s.heap [] 0 0 (MQ below (gQ X τ none G') args s 0 0 (gFree X)) _
  refine lv_aload_n fx.1 fx.2.1 dX3_forget_0 rfl (lv_at hl 0 rfl) ?_
  refine lv_iconst (v := 0) fx.1 fx.2.1 dX3_forget_1 (by decide) ?_
  refine g_puti fx hw h0 lp_RX3_26 rfl rfl dX3_forget_2 hok (fun G1 H locs hw hok => ?_)
  cases gOk_some hok
  exact g_vret fx hw hr dX3_forget_5
theorem dX4_isFilledBy_0 : decode cX4_isFilledBy 0 = .ok (.iload_n 2, 1) := by decide +kernel
theorem dX4_isFilledBy_1 : decode cX4_isFilledBy 1 = .ok (.aload_n 0, 1) := by decide +kernel
theorem dX4_isFilledBy_2 : decode cX4_isFilledBy 2 = .ok (.getfield 7, 3) := by decide +kernel
theorem dX4_isFilledBy_5 : decode cX4_isFilledBy 5 = .ok (.if_icmp .lt 15, 3) := by decide +kernel
theorem dX4_isFilledBy_8 : decode cX4_isFilledBy 8 = .ok (.iload_n 1, 1) := by decide +kernel
theorem dX4_isFilledBy_9 : decode cX4_isFilledBy 9 = .ok (.aload_n 0, 1) := by decide +kernel
theorem dX4_isFilledBy_10 : decode cX4_isFilledBy 10 = .ok (.getfield 13, 3) := by decide +kernel
theorem dX4_isFilledBy_13 : decode cX4_isFilledBy 13 = .ok (.if_icmp .lt 7, 3) := by decide +kernel
theorem dX4_isFilledBy_16 : decode cX4_isFilledBy 16 = .ok (.iconst 1, 1) := by decide +kernel
theorem dX4_isFilledBy_17 : decode cX4_isFilledBy 17 = .ok (.goto 4, 3) := by decide +kernel
theorem dX4_isFilledBy_20 : decode cX4_isFilledBy 20 = .ok (.iconst 0, 1) := by decide +kernel
theorem dX4_isFilledBy_21 : decode cX4_isFilledBy 21 = .ok (.ireturn, 1) := by decide +kernel
def rm_X4_isFilledBy : Room := { frames := 0, cells := 0, slots := 0, locals := 0 }
def f_X4_isFilledBy (x0 : Nat) (x1 : Int32) (x2 : Int32) (G : gG) : Option (Int32) :=
  if x2 < (gi G 4 0 x0) then (some (0))
  else (if x1 < (gi G 4 1 x0) then (some (0))
  else (some (1)))
set_option maxHeartbeats 4000000 in
set_option maxRecDepth 100000 in
theorem c_X4_isFilledBy (l : Launch) (X : gX) (τ : gτ) (x0 : Nat) (x1 : Int32) (x2 : Int32) (G : gG) (h0 : gK τ x0 4) {r : Int32}  (h : f_X4_isFilledBy x0 x1 x2 G = some r) : gM l X τ yX4_isFilledBy cX4_isFilledBy 3 (some .boolean) rm_X4_isFilledBy [.ref x0, .int x1, .int x2] G (some (.int r)) G := by
  refine g_body (by decide +kernel) (Nat.le_of_ble_eq_true rfl) ?_
  intro p e s m args below meth c ls fx hr hw hl
  have fx : gFx X p s m args meth c cX4_isFilledBy 3 RX4 := fx
  have hl : lv_has ls 3 [(0, .ref x0), (1, .int x1), (2, .int x2)] := hl
  have hok : gOk (f_X4_isFilledBy x0 x1 x2 G) (fun q => q = r) := ⟨_, h, rfl⟩
  unfold f_X4_isFilledBy at hok
  show W p l e rm_X4_isFilledBy s m args below meth c s.heap [] 0 0 (MQ below (gQ X τ (some (.int r)) G) args s 0 0 (gFree X)) _
  refine lv_iload_n fx.1 fx.2.1 dX4_isFilledBy_0 rfl (lv_at hl 2 rfl) ?_
  refine lv_aload_n fx.1 fx.2.1 dX4_isFilledBy_1 rfl (lv_at hl 0 rfl) ?_
  refine g_geti fx hw h0 lf_RX4_7 rfl dX4_isFilledBy_2 ?_
  refine g_icmp_lt (tgt := 20) fx dX4_isFilledBy_5 (by decide) hok (fun hok => ?_) (fun hok => ?_)
  · refine lv_iconst (v := 0) fx.1 fx.2.1 dX4_isFilledBy_20 (by decide) ?_
    cases gOk_some hok
    exact g_zret fx hw hr (by decide) dX4_isFilledBy_21
  · refine lv_iload_n fx.1 fx.2.1 dX4_isFilledBy_8 rfl (lv_at hl 1 rfl) ?_
    refine lv_aload_n fx.1 fx.2.1 dX4_isFilledBy_9 rfl (lv_at hl 0 rfl) ?_
    refine g_geti fx hw h0 lf_RX4_13 rfl dX4_isFilledBy_10 ?_
    refine g_icmp_lt (tgt := 20) fx dX4_isFilledBy_13 (by decide) hok (fun hok => ?_) (fun hok => ?_)
    · refine lv_iconst (v := 0) fx.1 fx.2.1 dX4_isFilledBy_20 (by decide) ?_
      cases gOk_some hok
      exact g_zret fx hw hr (by decide) dX4_isFilledBy_21
    · refine lv_iconst (v := 1) fx.1 fx.2.1 dX4_isFilledBy_16 (by decide) ?_
      refine lv_goto (tgt := 21) fx.1 fx.2.1 dX4_isFilledBy_17 (by decide) ?_
      cases gOk_some hok
      exact g_zret fx hw hr (by decide) dX4_isFilledBy_21
theorem dX5_beLaid_0 : decode cX5_beLaid 0 = .ok (.aload_n 0, 1) := by decide +kernel
theorem dX5_beLaid_1 : decode cX5_beLaid 1 = .ok (.iload_n 1, 1) := by decide +kernel
theorem dX5_beLaid_2 : decode cX5_beLaid 2 = .ok (.putfield 9, 3) := by decide +kernel
theorem dX5_beLaid_5 : decode cX5_beLaid 5 = .ok (.aload_n 0, 1) := by decide +kernel
theorem dX5_beLaid_6 : decode cX5_beLaid 6 = .ok (.iload_n 2, 1) := by decide +kernel
theorem dX5_beLaid_7 : decode cX5_beLaid 7 = .ok (.putfield 15, 3) := by decide +kernel
theorem dX5_beLaid_10 : decode cX5_beLaid 10 = .ok (.aload_n 0, 1) := by decide +kernel
theorem dX5_beLaid_11 : decode cX5_beLaid 11 = .ok (.iload_n 3, 1) := by decide +kernel
theorem dX5_beLaid_12 : decode cX5_beLaid 12 = .ok (.putfield 18, 3) := by decide +kernel
theorem dX5_beLaid_15 : decode cX5_beLaid 15 = .ok (.aload_n 0, 1) := by decide +kernel
theorem dX5_beLaid_16 : decode cX5_beLaid 16 = .ok (.iload 4, 2) := by decide +kernel
theorem dX5_beLaid_18 : decode cX5_beLaid 18 = .ok (.putfield 21, 3) := by decide +kernel
theorem dX5_beLaid_21 : decode cX5_beLaid 21 = .ok (.aload_n 0, 1) := by decide +kernel
theorem dX5_beLaid_22 : decode cX5_beLaid 22 = .ok (.iconst 0, 1) := by decide +kernel
theorem dX5_beLaid_23 : decode cX5_beLaid 23 = .ok (.putfield 24, 3) := by decide +kernel
theorem dX5_beLaid_26 : decode cX5_beLaid 26 = .ok (.aload_n 0, 1) := by decide +kernel
theorem dX5_beLaid_27 : decode cX5_beLaid 27 = .ok (.iconst 0, 1) := by decide +kernel
theorem dX5_beLaid_28 : decode cX5_beLaid 28 = .ok (.putfield 27, 3) := by decide +kernel
theorem dX5_beLaid_31 : decode cX5_beLaid 31 = .ok (.aload_n 0, 1) := by decide +kernel
theorem dX5_beLaid_32 : decode cX5_beLaid 32 = .ok (.iconst 1, 1) := by decide +kernel
theorem dX5_beLaid_33 : decode cX5_beLaid 33 = .ok (.putfield 30, 3) := by decide +kernel
theorem dX5_beLaid_36 : decode cX5_beLaid 36 = .ok (.aload_n 0, 1) := by decide +kernel
theorem dX5_beLaid_37 : decode cX5_beLaid 37 = .ok (.iconst 0, 1) := by decide +kernel
theorem dX5_beLaid_38 : decode cX5_beLaid 38 = .ok (.putfield 33, 3) := by decide +kernel
theorem dX5_beLaid_41 : decode cX5_beLaid 41 = .ok (.aload_n 0, 1) := by decide +kernel
theorem dX5_beLaid_42 : decode cX5_beLaid 42 = .ok (.iconst 0, 1) := by decide +kernel
theorem dX5_beLaid_43 : decode cX5_beLaid 43 = .ok (.putfield 36, 3) := by decide +kernel
theorem dX5_beLaid_46 : decode cX5_beLaid 46 = .ok (.aload_n 0, 1) := by decide +kernel
theorem dX5_beLaid_47 : decode cX5_beLaid 47 = .ok (.iconst 0, 1) := by decide +kernel
theorem dX5_beLaid_48 : decode cX5_beLaid 48 = .ok (.putfield 40, 3) := by decide +kernel
theorem dX5_beLaid_51 : decode cX5_beLaid 51 = .ok (.return_, 1) := by decide +kernel
def rm_X5_beLaid : Room := { frames := 0, cells := 0, slots := 0, locals := 0 }
def f_X5_beLaid (x0 : Nat) (x1 : Int32) (x2 : Int32) (x3 : Int32) (x4 : Int32) (G : gG) : Option (gG) :=
  gLet (gsi G 5 0 x0 x1) fun G1 =>
  gLet (gsi G1 5 1 x0 x2) fun G2 =>
  gLet (gsi G2 5 2 x0 x3) fun G3 =>
  gLet (gsi G3 5 3 x0 x4) fun G4 =>
  gLet (gsi G4 5 4 x0 (0 : Int32)) fun G5 =>
  gLet (gsi G5 5 5 x0 (0 : Int32)) fun G6 =>
  gLet (gsi G6 5 6 x0 (1 : Int32)) fun G7 =>
  gLet (gsi G7 5 7 x0 (0 : Int32)) fun G8 =>
  gLet (gsi G8 5 8 x0 (0 : Int32)) fun G9 =>
  gLet (gsi G9 5 9 x0 (0 : Int32)) fun G10 =>
  some G10
set_option maxHeartbeats 4000000 in
set_option maxRecDepth 100000 in
theorem c_X5_beLaid (l : Launch) (X : gX) (τ : gτ) (x0 : Nat) (x1 : Int32) (x2 : Int32) (x3 : Int32) (x4 : Int32) (G : gG) (h0 : gK τ x0 5) {G' : gG} (h : f_X5_beLaid x0 x1 x2 x3 x4 G = some G') : gM l X τ yX5_beLaid cX5_beLaid 5 none rm_X5_beLaid [.ref x0, .int x1, .int x2, .int x3, .int x4] G none G' := by
  refine g_body (by decide +kernel) (Nat.le_of_ble_eq_true rfl) ?_
  intro p e s m args below meth c ls fx hr hw hl
  have fx : gFx X p s m args meth c cX5_beLaid 5 RX5 := fx
  have hl : lv_has ls 5 [(0, .ref x0), (1, .int x1), (2, .int x2), (3, .int x3), (4, .int x4)] := hl
  have hok : gOk (f_X5_beLaid x0 x1 x2 x3 x4 G) (fun q => q = G') := ⟨_, h, rfl⟩
  unfold f_X5_beLaid at hok
  show W p l e rm_X5_beLaid s m args below meth c s.heap [] 0 0 (MQ below (gQ X τ none G') args s 0 0 (gFree X)) _
  refine lv_aload_n fx.1 fx.2.1 dX5_beLaid_0 rfl (lv_at hl 0 rfl) ?_
  refine lv_iload_n fx.1 fx.2.1 dX5_beLaid_1 rfl (lv_at hl 1 rfl) ?_
  refine g_puti fx hw h0 lp_RX5_9 rfl rfl dX5_beLaid_2 hok (fun G1 H locs hw hok => ?_)
  refine lv_aload_n fx.1 fx.2.1 dX5_beLaid_5 rfl (lv_at hl 0 rfl) ?_
  refine lv_iload_n fx.1 fx.2.1 dX5_beLaid_6 rfl (lv_at hl 2 rfl) ?_
  refine g_puti fx hw h0 lp_RX5_15 rfl rfl dX5_beLaid_7 hok (fun G2 H locs hw hok => ?_)
  refine lv_aload_n fx.1 fx.2.1 dX5_beLaid_10 rfl (lv_at hl 0 rfl) ?_
  refine lv_iload_n fx.1 fx.2.1 dX5_beLaid_11 rfl (lv_at hl 3 rfl) ?_
  refine g_puti fx hw h0 lp_RX5_18 rfl rfl dX5_beLaid_12 hok (fun G3 H locs hw hok => ?_)
  refine lv_aload_n fx.1 fx.2.1 dX5_beLaid_15 rfl (lv_at hl 0 rfl) ?_
  refine lv_iload fx.1 fx.2.1 dX5_beLaid_16 (lv_at hl 4 rfl) ?_
  refine g_puti fx hw h0 lp_RX5_21 rfl rfl dX5_beLaid_18 hok (fun G4 H locs hw hok => ?_)
  refine lv_aload_n fx.1 fx.2.1 dX5_beLaid_21 rfl (lv_at hl 0 rfl) ?_
  refine lv_iconst (v := 0) fx.1 fx.2.1 dX5_beLaid_22 (by decide) ?_
  refine g_puti fx hw h0 lp_RX5_24 rfl rfl dX5_beLaid_23 hok (fun G5 H locs hw hok => ?_)
  refine lv_aload_n fx.1 fx.2.1 dX5_beLaid_26 rfl (lv_at hl 0 rfl) ?_
  refine lv_iconst (v := 0) fx.1 fx.2.1 dX5_beLaid_27 (by decide) ?_
  refine g_puti fx hw h0 lp_RX5_27 rfl rfl dX5_beLaid_28 hok (fun G6 H locs hw hok => ?_)
  refine lv_aload_n fx.1 fx.2.1 dX5_beLaid_31 rfl (lv_at hl 0 rfl) ?_
  refine lv_iconst (v := 1) fx.1 fx.2.1 dX5_beLaid_32 (by decide) ?_
  refine g_puti fx hw h0 lp_RX5_30 rfl rfl dX5_beLaid_33 hok (fun G7 H locs hw hok => ?_)
  refine lv_aload_n fx.1 fx.2.1 dX5_beLaid_36 rfl (lv_at hl 0 rfl) ?_
  refine lv_iconst (v := 0) fx.1 fx.2.1 dX5_beLaid_37 (by decide) ?_
  refine g_puti fx hw h0 lp_RX5_33 rfl rfl dX5_beLaid_38 hok (fun G8 H locs hw hok => ?_)
  refine lv_aload_n fx.1 fx.2.1 dX5_beLaid_41 rfl (lv_at hl 0 rfl) ?_
  refine lv_iconst (v := 0) fx.1 fx.2.1 dX5_beLaid_42 (by decide) ?_
  refine g_putz fx hw h0 lp_RX5_36 rfl rfl (by decide) dX5_beLaid_43 hok (fun G9 H locs hw hok => ?_)
  refine lv_aload_n fx.1 fx.2.1 dX5_beLaid_46 rfl (lv_at hl 0 rfl) ?_
  refine lv_iconst (v := 0) fx.1 fx.2.1 dX5_beLaid_47 (by decide) ?_
  refine g_putz fx hw h0 lp_RX5_40 rfl rfl (by decide) dX5_beLaid_48 hok (fun G10 H locs hw hok => ?_)
  cases gOk_some hok
  exact g_vret fx hw hr dX5_beLaid_51
theorem dX5_isOf_0 : decode cX5_isOf 0 = .ok (.iload_n 1, 1) := by decide +kernel
theorem dX5_isOf_1 : decode cX5_isOf 1 = .ok (.aload_n 0, 1) := by decide +kernel
theorem dX5_isOf_2 : decode cX5_isOf 2 = .ok (.getfield 9, 3) := by decide +kernel
theorem dX5_isOf_5 : decode cX5_isOf 5 = .ok (.if_icmp .eq 19, 3) := by decide +kernel
theorem dX5_isOf_8 : decode cX5_isOf 8 = .ok (.iload_n 1, 1) := by decide +kernel
theorem dX5_isOf_9 : decode cX5_isOf 9 = .ok (.aload_n 0, 1) := by decide +kernel
theorem dX5_isOf_10 : decode cX5_isOf 10 = .ok (.getfield 15, 3) := by decide +kernel
theorem dX5_isOf_13 : decode cX5_isOf 13 = .ok (.if_icmp .eq 11, 3) := by decide +kernel
theorem dX5_isOf_16 : decode cX5_isOf 16 = .ok (.iload_n 1, 1) := by decide +kernel
theorem dX5_isOf_17 : decode cX5_isOf 17 = .ok (.aload_n 0, 1) := by decide +kernel
theorem dX5_isOf_18 : decode cX5_isOf 18 = .ok (.getfield 18, 3) := by decide +kernel
theorem dX5_isOf_21 : decode cX5_isOf 21 = .ok (.if_icmp .ne 7, 3) := by decide +kernel
theorem dX5_isOf_24 : decode cX5_isOf 24 = .ok (.iconst 1, 1) := by decide +kernel
theorem dX5_isOf_25 : decode cX5_isOf 25 = .ok (.goto 4, 3) := by decide +kernel
theorem dX5_isOf_28 : decode cX5_isOf 28 = .ok (.iconst 0, 1) := by decide +kernel
theorem dX5_isOf_29 : decode cX5_isOf 29 = .ok (.ireturn, 1) := by decide +kernel
def rm_X5_isOf : Room := { frames := 0, cells := 0, slots := 0, locals := 0 }
def f_X5_isOf (x0 : Nat) (x1 : Int32) (G : gG) : Option (Int32) :=
  if x1 = (gi G 5 0 x0) then (some (1))
  else (if x1 = (gi G 5 1 x0) then (some (1))
  else (if x1 = (gi G 5 2 x0) then (some (1))
  else (some (0))))
set_option maxHeartbeats 4000000 in
set_option maxRecDepth 100000 in
theorem c_X5_isOf (l : Launch) (X : gX) (τ : gτ) (x0 : Nat) (x1 : Int32) (G : gG) (h0 : gK τ x0 5) {r : Int32}  (h : f_X5_isOf x0 x1 G = some r) : gM l X τ yX5_isOf cX5_isOf 2 (some .boolean) rm_X5_isOf [.ref x0, .int x1] G (some (.int r)) G := by
  refine g_body (by decide +kernel) (Nat.le_of_ble_eq_true rfl) ?_
  intro p e s m args below meth c ls fx hr hw hl
  have fx : gFx X p s m args meth c cX5_isOf 2 RX5 := fx
  have hl : lv_has ls 2 [(0, .ref x0), (1, .int x1)] := hl
  have hok : gOk (f_X5_isOf x0 x1 G) (fun q => q = r) := ⟨_, h, rfl⟩
  unfold f_X5_isOf at hok
  show W p l e rm_X5_isOf s m args below meth c s.heap [] 0 0 (MQ below (gQ X τ (some (.int r)) G) args s 0 0 (gFree X)) _
  refine lv_iload_n fx.1 fx.2.1 dX5_isOf_0 rfl (lv_at hl 1 rfl) ?_
  refine lv_aload_n fx.1 fx.2.1 dX5_isOf_1 rfl (lv_at hl 0 rfl) ?_
  refine g_geti fx hw h0 lf_RX5_9 rfl dX5_isOf_2 ?_
  refine g_icmp_eq (tgt := 24) fx dX5_isOf_5 (by decide) hok (fun hok => ?_) (fun hok => ?_)
  · refine lv_iconst (v := 1) fx.1 fx.2.1 dX5_isOf_24 (by decide) ?_
    refine lv_goto (tgt := 29) fx.1 fx.2.1 dX5_isOf_25 (by decide) ?_
    cases gOk_some hok
    exact g_zret fx hw hr (by decide) dX5_isOf_29
  · refine lv_iload_n fx.1 fx.2.1 dX5_isOf_8 rfl (lv_at hl 1 rfl) ?_
    refine lv_aload_n fx.1 fx.2.1 dX5_isOf_9 rfl (lv_at hl 0 rfl) ?_
    refine g_geti fx hw h0 lf_RX5_15 rfl dX5_isOf_10 ?_
    refine g_icmp_eq (tgt := 24) fx dX5_isOf_13 (by decide) hok (fun hok => ?_) (fun hok => ?_)
    · refine lv_iconst (v := 1) fx.1 fx.2.1 dX5_isOf_24 (by decide) ?_
      refine lv_goto (tgt := 29) fx.1 fx.2.1 dX5_isOf_25 (by decide) ?_
      cases gOk_some hok
      exact g_zret fx hw hr (by decide) dX5_isOf_29
    · refine lv_iload_n fx.1 fx.2.1 dX5_isOf_16 rfl (lv_at hl 1 rfl) ?_
      refine lv_aload_n fx.1 fx.2.1 dX5_isOf_17 rfl (lv_at hl 0 rfl) ?_
      refine g_geti fx hw h0 lf_RX5_18 rfl dX5_isOf_18 ?_
      refine g_icmp_ne (tgt := 28) fx dX5_isOf_21 (by decide) hok (fun hok => ?_) (fun hok => ?_)
      · refine lv_iconst (v := 1) fx.1 fx.2.1 dX5_isOf_24 (by decide) ?_
        refine lv_goto (tgt := 29) fx.1 fx.2.1 dX5_isOf_25 (by decide) ?_
        cases gOk_some hok
        exact g_zret fx hw hr (by decide) dX5_isOf_29
      · refine lv_iconst (v := 0) fx.1 fx.2.1 dX5_isOf_28 (by decide) ?_
        cases gOk_some hok
        exact g_zret fx hw hr (by decide) dX5_isOf_29
theorem dX5_isFree_0 : decode cX5_isFree 0 = .ok (.aload_n 0, 1) := by decide +kernel
theorem dX5_isFree_1 : decode cX5_isFree 1 = .ok (.getfield 40, 3) := by decide +kernel
theorem dX5_isFree_4 : decode cX5_isFree 4 = .ok (.ifCond .ne 14, 3) := by decide +kernel
theorem dX5_isFree_7 : decode cX5_isFree 7 = .ok (.aload_n 0, 1) := by decide +kernel
theorem dX5_isFree_8 : decode cX5_isFree 8 = .ok (.getfield 33, 3) := by decide +kernel
theorem dX5_isFree_11 : decode cX5_isFree 11 = .ok (.ifCond .ne 7, 3) := by decide +kernel
theorem dX5_isFree_14 : decode cX5_isFree 14 = .ok (.iconst 1, 1) := by decide +kernel
theorem dX5_isFree_15 : decode cX5_isFree 15 = .ok (.goto 4, 3) := by decide +kernel
theorem dX5_isFree_18 : decode cX5_isFree 18 = .ok (.iconst 0, 1) := by decide +kernel
theorem dX5_isFree_19 : decode cX5_isFree 19 = .ok (.ireturn, 1) := by decide +kernel
def rm_X5_isFree : Room := { frames := 0, cells := 0, slots := 0, locals := 0 }
def f_X5_isFree (x0 : Nat) (G : gG) : Option (Int32) :=
  if (gi G 5 9 x0) = 0 then (if (gi G 5 7 x0) = 0 then (some (1))
  else (some (0)))
  else (some (0))
set_option maxHeartbeats 4000000 in
set_option maxRecDepth 100000 in
theorem c_X5_isFree (l : Launch) (X : gX) (τ : gτ) (x0 : Nat) (G : gG) (h0 : gK τ x0 5) {r : Int32}  (h : f_X5_isFree x0 G = some r) : gM l X τ yX5_isFree cX5_isFree 1 (some .boolean) rm_X5_isFree [.ref x0] G (some (.int r)) G := by
  refine g_body (by decide +kernel) (Nat.le_of_ble_eq_true rfl) ?_
  intro p e s m args below meth c ls fx hr hw hl
  have fx : gFx X p s m args meth c cX5_isFree 1 RX5 := fx
  have hl : lv_has ls 1 [(0, .ref x0)] := hl
  have hok : gOk (f_X5_isFree x0 G) (fun q => q = r) := ⟨_, h, rfl⟩
  unfold f_X5_isFree at hok
  show W p l e rm_X5_isFree s m args below meth c s.heap [] 0 0 (MQ below (gQ X τ (some (.int r)) G) args s 0 0 (gFree X)) _
  refine lv_aload_n fx.1 fx.2.1 dX5_isFree_0 rfl (lv_at hl 0 rfl) ?_
  refine g_geti fx hw h0 lf_RX5_40 rfl dX5_isFree_1 ?_
  refine g_if_ne (tgt := 18) fx dX5_isFree_4 (by decide) hok (fun hok => ?_) (fun hok => ?_)
  · refine lv_aload_n fx.1 fx.2.1 dX5_isFree_7 rfl (lv_at hl 0 rfl) ?_
    refine g_geti fx hw h0 lf_RX5_33 rfl dX5_isFree_8 ?_
    refine g_if_ne (tgt := 18) fx dX5_isFree_11 (by decide) hok (fun hok => ?_) (fun hok => ?_)
    · refine lv_iconst (v := 1) fx.1 fx.2.1 dX5_isFree_14 (by decide) ?_
      refine lv_goto (tgt := 19) fx.1 fx.2.1 dX5_isFree_15 (by decide) ?_
      cases gOk_some hok
      exact g_zret fx hw hr (by decide) dX5_isFree_19
    · refine lv_iconst (v := 0) fx.1 fx.2.1 dX5_isFree_18 (by decide) ?_
      cases gOk_some hok
      exact g_zret fx hw hr (by decide) dX5_isFree_19
  · refine lv_iconst (v := 0) fx.1 fx.2.1 dX5_isFree_18 (by decide) ?_
    cases gOk_some hok
    exact g_zret fx hw hr (by decide) dX5_isFree_19
theorem dX5_tarOnce_0 : decode cX5_tarOnce 0 = .ok (.aload_n 0, 1) := by decide +kernel
theorem dX5_tarOnce_1 : decode cX5_tarOnce 1 = .ok (.aload_n 0, 1) := by decide +kernel
theorem dX5_tarOnce_2 : decode cX5_tarOnce 2 = .ok (.getfield 24, 3) := by decide +kernel
theorem dX5_tarOnce_5 : decode cX5_tarOnce 5 = .ok (.iconst 1, 1) := by decide +kernel
theorem dX5_tarOnce_6 : decode cX5_tarOnce 6 = .ok (.iadd, 1) := by decide +kernel
theorem dX5_tarOnce_7 : decode cX5_tarOnce 7 = .ok (.bipush 9, 2) := by decide +kernel
theorem dX5_tarOnce_9 : decode cX5_tarOnce 9 = .ok (.invokestatic 43, 3) := by decide +kernel
theorem dX5_tarOnce_12 : decode cX5_tarOnce 12 = .ok (.putfield 24, 3) := by decide +kernel
theorem dX5_tarOnce_15 : decode cX5_tarOnce 15 = .ok (.aload_n 0, 1) := by decide +kernel
theorem dX5_tarOnce_16 : decode cX5_tarOnce 16 = .ok (.aload_n 0, 1) := by decide +kernel
theorem dX5_tarOnce_17 : decode cX5_tarOnce 17 = .ok (.getfield 27, 3) := by decide +kernel
theorem dX5_tarOnce_20 : decode cX5_tarOnce 20 = .ok (.iconst 5, 1) := by decide +kernel
theorem dX5_tarOnce_21 : decode cX5_tarOnce 21 = .ok (.isub, 1) := by decide +kernel
theorem dX5_tarOnce_22 : decode cX5_tarOnce 22 = .ok (.iconst 0, 1) := by decide +kernel
theorem dX5_tarOnce_23 : decode cX5_tarOnce 23 = .ok (.invokestatic 49, 3) := by decide +kernel
theorem dX5_tarOnce_26 : decode cX5_tarOnce 26 = .ok (.putfield 27, 3) := by decide +kernel
theorem dX5_tarOnce_29 : decode cX5_tarOnce 29 = .ok (.return_, 1) := by decide +kernel
theorem lm_RX5_43 : Cond.methodLink RX5 43 Lib.Math.min.name ∈ wA := wA_t (wt5 (List.mem_of_getElem? (i := 156) (by decide +kernel))) (by decide +kernel)
theorem lm_RX5_49 : Cond.methodLink RX5 49 Lib.Math.max.name ∈ wA := wA_t (wt5 (List.mem_of_getElem? (i := 157) (by decide +kernel))) (by decide +kernel)
def rm_X5_tarOnce : Room := { frames := 1, cells := 0, slots := 0, locals := 21 }
def f_X5_tarOnce (x0 : Nat) (G : gG) : Option (gG) :=
  gLet (gsi G 5 4 x0 (gmin ((gi G 5 4 x0) + (1 : Int32)) (9 : Int32))) fun G1 =>
  gLet (gsi G1 5 5 x0 (gmax ((gi G1 5 5 x0) - (5 : Int32)) (0 : Int32))) fun G2 =>
  some G2
set_option maxHeartbeats 4000000 in
set_option maxRecDepth 100000 in
theorem c_X5_tarOnce (l : Launch) (X : gX) (τ : gτ) (x0 : Nat) (G : gG) (h0 : gK τ x0 5) {G' : gG} (h : f_X5_tarOnce x0 G = some G') : gM l X τ yX5_tarOnce cX5_tarOnce 1 none rm_X5_tarOnce [.ref x0] G none G' := by
  refine g_body (by decide +kernel) (Nat.le_of_ble_eq_true rfl) ?_
  intro p e s m args below meth c ls fx hr hw hl
  have fx : gFx X p s m args meth c cX5_tarOnce 1 RX5 := fx
  have hl : lv_has ls 1 [(0, .ref x0)] := hl
  have hok : gOk (f_X5_tarOnce x0 G) (fun q => q = G') := ⟨_, h, rfl⟩
  unfold f_X5_tarOnce at hok
  show W p l e rm_X5_tarOnce s m args below meth c s.heap [] 0 0 (MQ below (gQ X τ none G') args s 0 0 (gFree X)) _
  refine lv_aload_n fx.1 fx.2.1 dX5_tarOnce_0 rfl (lv_at hl 0 rfl) ?_
  refine lv_aload_n fx.1 fx.2.1 dX5_tarOnce_1 rfl (lv_at hl 0 rfl) ?_
  refine g_geti fx hw h0 lf_RX5_24 rfl dX5_tarOnce_2 ?_
  refine lv_iconst (v := 1) fx.1 fx.2.1 dX5_tarOnce_5 (by decide) ?_
  refine lv_iadd fx.1 fx.2.1 dX5_tarOnce_6 ?_
  refine lv_bipush (v := 9) fx.1 fx.2.1 dX5_tarOnce_7 (by decide) ?_
  refine g_mmin fx hl.1 lm_RX5_43 lmst_min lm_init lmco_min ⟨Nat.le_of_ble_eq_true rfl, Nat.le_of_ble_eq_true rfl, Nat.le_of_ble_eq_true rfl, Nat.le_of_ble_eq_true rfl⟩ dX5_tarOnce_9 ?_
  refine g_puti fx hw h0 lp_RX5_24 rfl rfl dX5_tarOnce_12 hok (fun G1 H locs hw hok => ?_)
  refine lv_aload_n fx.1 fx.2.1 dX5_tarOnce_15 rfl (lv_at hl 0 rfl) ?_
  refine lv_aload_n fx.1 fx.2.1 dX5_tarOnce_16 rfl (lv_at hl 0 rfl) ?_
  refine g_geti fx hw h0 lf_RX5_27 rfl dX5_tarOnce_17 ?_
  refine lv_iconst (v := 5) fx.1 fx.2.1 dX5_tarOnce_20 (by decide) ?_
  refine lv_isub fx.1 fx.2.1 dX5_tarOnce_21 ?_
  refine lv_iconst (v := 0) fx.1 fx.2.1 dX5_tarOnce_22 (by decide) ?_
  refine g_mmax fx hl.1 lm_RX5_49 lmst_max lm_init lmco_max ⟨Nat.le_of_ble_eq_true rfl, Nat.le_of_ble_eq_true rfl, Nat.le_of_ble_eq_true rfl, Nat.le_of_ble_eq_true rfl⟩ dX5_tarOnce_23 ?_
  refine g_puti fx hw h0 lp_RX5_27 rfl rfl dX5_tarOnce_26 hok (fun G2 H locs hw hok => ?_)
  cases gOk_some hok
  exact g_vret fx hw hr dX5_tarOnce_29
theorem dX5_canDouble_0 : decode cX5_canDouble 0 = .ok (.aload_n 0, 1) := by decide +kernel
theorem dX5_canDouble_1 : decode cX5_canDouble 1 = .ok (.getfield 40, 3) := by decide +kernel
theorem dX5_canDouble_4 : decode cX5_canDouble 4 = .ok (.ifCond .ne 24, 3) := by decide +kernel
theorem dX5_canDouble_7 : decode cX5_canDouble 7 = .ok (.aload_n 0, 1) := by decide +kernel
theorem dX5_canDouble_8 : decode cX5_canDouble 8 = .ok (.getfield 30, 3) := by decide +kernel
theorem dX5_canDouble_11 : decode cX5_canDouble 11 = .ok (.bipush 8, 2) := by decide +kernel
theorem dX5_canDouble_13 : decode cX5_canDouble 13 = .ok (.if_icmp .ge 15, 3) := by decide +kernel
theorem dX5_canDouble_16 : decode cX5_canDouble 16 = .ok (.aload_n 0, 1) := by decide +kernel
theorem dX5_canDouble_17 : decode cX5_canDouble 17 = .ok (.getfield 21, 3) := by decide +kernel
theorem dX5_canDouble_20 : decode cX5_canDouble 20 = .ok (.iconst 2, 1) := by decide +kernel
theorem dX5_canDouble_21 : decode cX5_canDouble 21 = .ok (.if_icmp .lt 7, 3) := by decide +kernel
theorem dX5_canDouble_24 : decode cX5_canDouble 24 = .ok (.iconst 1, 1) := by decide +kernel
theorem dX5_canDouble_25 : decode cX5_canDouble 25 = .ok (.goto 4, 3) := by decide +kernel
theorem dX5_canDouble_28 : decode cX5_canDouble 28 = .ok (.iconst 0, 1) := by decide +kernel
theorem dX5_canDouble_29 : decode cX5_canDouble 29 = .ok (.ireturn, 1) := by decide +kernel
def rm_X5_canDouble : Room := { frames := 0, cells := 0, slots := 0, locals := 0 }
def f_X5_canDouble (x0 : Nat) (G : gG) : Option (Int32) :=
  if (gi G 5 9 x0) = 0 then (if (8 : Int32) ≤ (gi G 5 6 x0) then (some (0))
  else (if (gi G 5 3 x0) < (2 : Int32) then (some (0))
  else (some (1))))
  else (some (0))
set_option maxHeartbeats 4000000 in
set_option maxRecDepth 100000 in
theorem c_X5_canDouble (l : Launch) (X : gX) (τ : gτ) (x0 : Nat) (G : gG) (h0 : gK τ x0 5) {r : Int32}  (h : f_X5_canDouble x0 G = some r) : gM l X τ yX5_canDouble cX5_canDouble 1 (some .boolean) rm_X5_canDouble [.ref x0] G (some (.int r)) G := by
  refine g_body (by decide +kernel) (Nat.le_of_ble_eq_true rfl) ?_
  intro p e s m args below meth c ls fx hr hw hl
  have fx : gFx X p s m args meth c cX5_canDouble 1 RX5 := fx
  have hl : lv_has ls 1 [(0, .ref x0)] := hl
  have hok : gOk (f_X5_canDouble x0 G) (fun q => q = r) := ⟨_, h, rfl⟩
  unfold f_X5_canDouble at hok
  show W p l e rm_X5_canDouble s m args below meth c s.heap [] 0 0 (MQ below (gQ X τ (some (.int r)) G) args s 0 0 (gFree X)) _
  refine lv_aload_n fx.1 fx.2.1 dX5_canDouble_0 rfl (lv_at hl 0 rfl) ?_
  refine g_geti fx hw h0 lf_RX5_40 rfl dX5_canDouble_1 ?_
  refine g_if_ne (tgt := 28) fx dX5_canDouble_4 (by decide) hok (fun hok => ?_) (fun hok => ?_)
  · refine lv_aload_n fx.1 fx.2.1 dX5_canDouble_7 rfl (lv_at hl 0 rfl) ?_
    refine g_geti fx hw h0 lf_RX5_30 rfl dX5_canDouble_8 ?_
    refine lv_bipush (v := 8) fx.1 fx.2.1 dX5_canDouble_11 (by decide) ?_
    refine g_icmp_ge (tgt := 28) fx dX5_canDouble_13 (by decide) hok (fun hok => ?_) (fun hok => ?_)
    · refine lv_iconst (v := 0) fx.1 fx.2.1 dX5_canDouble_28 (by decide) ?_
      cases gOk_some hok
      exact g_zret fx hw hr (by decide) dX5_canDouble_29
    · refine lv_aload_n fx.1 fx.2.1 dX5_canDouble_16 rfl (lv_at hl 0 rfl) ?_
      refine g_geti fx hw h0 lf_RX5_21 rfl dX5_canDouble_17 ?_
      refine lv_iconst (v := 2) fx.1 fx.2.1 dX5_canDouble_20 (by decide) ?_
      refine g_icmp_lt (tgt := 28) fx dX5_canDouble_21 (by decide) hok (fun hok => ?_) (fun hok => ?_)
      · refine lv_iconst (v := 0) fx.1 fx.2.1 dX5_canDouble_28 (by decide) ?_
        cases gOk_some hok
        exact g_zret fx hw hr (by decide) dX5_canDouble_29
      · refine lv_iconst (v := 1) fx.1 fx.2.1 dX5_canDouble_24 (by decide) ?_
        refine lv_goto (tgt := 29) fx.1 fx.2.1 dX5_canDouble_25 (by decide) ?_
        cases gOk_some hok
        exact g_zret fx hw hr (by decide) dX5_canDouble_29
  · refine lv_iconst (v := 0) fx.1 fx.2.1 dX5_canDouble_28 (by decide) ?_
    cases gOk_some hok
    exact g_zret fx hw hr (by decide) dX5_canDouble_29
theorem dX5_makeDouble_0 : decode cX5_makeDouble 0 = .ok (.aload_n 0, 1) := by decide +kernel
theorem dX5_makeDouble_1 : decode cX5_makeDouble 1 = .ok (.aload_n 0, 1) := by decide +kernel
theorem dX5_makeDouble_2 : decode cX5_makeDouble 2 = .ok (.getfield 30, 3) := by decide +kernel
theorem dX5_makeDouble_5 : decode cX5_makeDouble 5 = .ok (.iconst 2, 1) := by decide +kernel
theorem dX5_makeDouble_6 : decode cX5_makeDouble 6 = .ok (.imul, 1) := by decide +kernel
theorem dX5_makeDouble_7 : decode cX5_makeDouble 7 = .ok (.putfield 30, 3) := by decide +kernel
theorem dX5_makeDouble_10 : decode cX5_makeDouble 10 = .ok (.aload_n 0, 1) := by decide +kernel
theorem dX5_makeDouble_11 : decode cX5_makeDouble 11 = .ok (.aload_n 0, 1) := by decide +kernel
theorem dX5_makeDouble_12 : decode cX5_makeDouble 12 = .ok (.getfield 21, 3) := by decide +kernel
theorem dX5_makeDouble_15 : decode cX5_makeDouble 15 = .ok (.iconst 2, 1) := by decide +kernel
theorem dX5_makeDouble_16 : decode cX5_makeDouble 16 = .ok (.idiv, 1) := by decide +kernel
theorem dX5_makeDouble_17 : decode cX5_makeDouble 17 = .ok (.putfield 21, 3) := by decide +kernel
theorem dX5_makeDouble_20 : decode cX5_makeDouble 20 = .ok (.return_, 1) := by decide +kernel
def rm_X5_makeDouble : Room := { frames := 0, cells := 0, slots := 0, locals := 0 }
def f_X5_makeDouble (x0 : Nat) (G : gG) : Option (gG) :=
  gLet (gsi G 5 6 x0 ((gi G 5 6 x0) * (2 : Int32))) fun G1 =>
  gLet (gsi G1 5 3 x0 ((gi G1 5 3 x0) / (2 : Int32))) fun G2 =>
  some G2
set_option maxHeartbeats 4000000 in
set_option maxRecDepth 100000 in
theorem c_X5_makeDouble (l : Launch) (X : gX) (τ : gτ) (x0 : Nat) (G : gG) (h0 : gK τ x0 5) {G' : gG} (h : f_X5_makeDouble x0 G = some G') : gM l X τ yX5_makeDouble cX5_makeDouble 1 none rm_X5_makeDouble [.ref x0] G none G' := by
  refine g_body (by decide +kernel) (Nat.le_of_ble_eq_true rfl) ?_
  intro p e s m args below meth c ls fx hr hw hl
  have fx : gFx X p s m args meth c cX5_makeDouble 1 RX5 := fx
  have hl : lv_has ls 1 [(0, .ref x0)] := hl
  have hok : gOk (f_X5_makeDouble x0 G) (fun q => q = G') := ⟨_, h, rfl⟩
  unfold f_X5_makeDouble at hok
  show W p l e rm_X5_makeDouble s m args below meth c s.heap [] 0 0 (MQ below (gQ X τ none G') args s 0 0 (gFree X)) _
  refine lv_aload_n fx.1 fx.2.1 dX5_makeDouble_0 rfl (lv_at hl 0 rfl) ?_
  refine lv_aload_n fx.1 fx.2.1 dX5_makeDouble_1 rfl (lv_at hl 0 rfl) ?_
  refine g_geti fx hw h0 lf_RX5_30 rfl dX5_makeDouble_2 ?_
  refine lv_iconst (v := 2) fx.1 fx.2.1 dX5_makeDouble_5 (by decide) ?_
  refine lv_imul fx.1 fx.2.1 dX5_makeDouble_6 ?_
  refine g_puti fx hw h0 lp_RX5_30 rfl rfl dX5_makeDouble_7 hok (fun G1 H locs hw hok => ?_)
  refine lv_aload_n fx.1 fx.2.1 dX5_makeDouble_10 rfl (lv_at hl 0 rfl) ?_
  refine lv_aload_n fx.1 fx.2.1 dX5_makeDouble_11 rfl (lv_at hl 0 rfl) ?_
  refine g_geti fx hw h0 lf_RX5_21 rfl dX5_makeDouble_12 ?_
  refine lv_iconst (v := 2) fx.1 fx.2.1 dX5_makeDouble_15 (by decide) ?_
  refine lv_idiv fx.1 fx.2.1 dX5_makeDouble_16 (by decide) ?_
  refine g_puti fx hw h0 lp_RX5_21 rfl rfl dX5_makeDouble_17 hok (fun G2 H locs hw hok => ?_)
  cases gOk_some hok
  exact g_vret fx hw hr dX5_makeDouble_20
theorem dX6_addYarn_0 : decode cX6_addYarn 0 = .ok (.aload_n 0, 1) := by decide +kernel
theorem dX6_addYarn_1 : decode cX6_addYarn 1 = .ok (.getfield 43, 3) := by decide +kernel
theorem dX6_addYarn_4 : decode cX6_addYarn 4 = .ok (.bipush 10, 2) := by decide +kernel
theorem dX6_addYarn_6 : decode cX6_addYarn 6 = .ok (.if_icmp .lt 4, 3) := by decide +kernel
theorem dX6_addYarn_9 : decode cX6_addYarn 9 = .ok (.return_, 1) := by decide +kernel
theorem dX6_addYarn_10 : decode cX6_addYarn 10 = .ok (.aload_n 0, 1) := by decide +kernel
theorem dX6_addYarn_11 : decode cX6_addYarn 11 = .ok (.getfield 11, 3) := by decide +kernel
theorem dX6_addYarn_14 : decode cX6_addYarn 14 = .ok (.aload_n 0, 1) := by decide +kernel
theorem dX6_addYarn_15 : decode cX6_addYarn 15 = .ok (.getfield 43, 3) := by decide +kernel
theorem dX6_addYarn_18 : decode cX6_addYarn 18 = .ok (.aaload, 1) := by decide +kernel
theorem dX6_addYarn_19 : decode cX6_addYarn 19 = .ok (.astore 5, 2) := by decide +kernel
theorem dX6_addYarn_21 : decode cX6_addYarn 21 = .ok (.aload 5, 2) := by decide +kernel
theorem dX6_addYarn_23 : decode cX6_addYarn 23 = .ok (.iload_n 1, 1) := by decide +kernel
theorem dX6_addYarn_24 : decode cX6_addYarn 24 = .ok (.putfield 86, 3) := by decide +kernel
theorem dX6_addYarn_27 : decode cX6_addYarn 27 = .ok (.aload 5, 2) := by decide +kernel
theorem dX6_addYarn_29 : decode cX6_addYarn 29 = .ok (.iload_n 2, 1) := by decide +kernel
theorem dX6_addYarn_30 : decode cX6_addYarn 30 = .ok (.putfield 89, 3) := by decide +kernel
theorem dX6_addYarn_33 : decode cX6_addYarn 33 = .ok (.aload 5, 2) := by decide +kernel
theorem dX6_addYarn_35 : decode cX6_addYarn 35 = .ok (.iload_n 3, 1) := by decide +kernel
theorem dX6_addYarn_36 : decode cX6_addYarn 36 = .ok (.putfield 92, 3) := by decide +kernel
theorem dX6_addYarn_39 : decode cX6_addYarn 39 = .ok (.aload 5, 2) := by decide +kernel
theorem dX6_addYarn_41 : decode cX6_addYarn 41 = .ok (.iload 4, 2) := by decide +kernel
theorem dX6_addYarn_43 : decode cX6_addYarn 43 = .ok (.putfield 95, 3) := by decide +kernel
theorem dX6_addYarn_46 : decode cX6_addYarn 46 = .ok (.aload_n 0, 1) := by decide +kernel
theorem dX6_addYarn_47 : decode cX6_addYarn 47 = .ok (.dup, 1) := by decide +kernel
theorem dX6_addYarn_48 : decode cX6_addYarn 48 = .ok (.getfield 43, 3) := by decide +kernel
theorem dX6_addYarn_51 : decode cX6_addYarn 51 = .ok (.iconst 1, 1) := by decide +kernel
theorem dX6_addYarn_52 : decode cX6_addYarn 52 = .ok (.iadd, 1) := by decide +kernel
theorem dX6_addYarn_53 : decode cX6_addYarn 53 = .ok (.putfield 43, 3) := by decide +kernel
theorem dX6_addYarn_56 : decode cX6_addYarn 56 = .ok (.return_, 1) := by decide +kernel
theorem lp_RX6_86 : gLp RX6 86 9 0 := ⟨(RX9, TX9, 4), rfl, by decide, wA_t (wt1 (List.mem_of_getElem? (i := 134) (by decide +kernel))) (by decide +kernel), rfl, rfl⟩
theorem lp_RX6_89 : gLp RX6 89 9 1 := ⟨(RX9, TX9, 4), rfl, by decide, wA_t (wt1 (List.mem_of_getElem? (i := 138) (by decide +kernel))) (by decide +kernel), rfl, rfl⟩
theorem lp_RX6_92 : gLp RX6 92 9 2 := ⟨(RX9, TX9, 4), rfl, by decide, wA_t (wt1 (List.mem_of_getElem? (i := 141) (by decide +kernel))) (by decide +kernel), rfl, rfl⟩
theorem lp_RX6_95 : gLp RX6 95 9 3 := ⟨(RX9, TX9, 4), rfl, by decide, wA_t (wt1 (List.mem_of_getElem? (i := 145) (by decide +kernel))) (by decide +kernel), rfl, rfl⟩
def rm_X6_addYarn : Room := { frames := 0, cells := 0, slots := 0, locals := 0 }
def f_X6_addYarn (τ : gτ) (x0 : Nat) (x1 : Int32) (x2 : Int32) (x3 : Int32) (x4 : Int32) (G : gG) : Option (gG) :=
  if (gi G 6 4 x0) < (10 : Int32) then ((gr G 6 0 x0).bind fun a1 =>
  gchk (gIn (gi G 6 4 x0) (gn τ a1)) <| (gq G a1 (Int32.toNatClampNeg (gi G 6 4 x0))).bind fun a2 =>
  gLet (gsi G 9 0 a2 x1) fun G3 =>
  gLet (gsi G3 9 1 a2 x2) fun G4 =>
  gLet (gsi G4 9 2 a2 x3) fun G5 =>
  gLet (gsi G5 9 3 a2 x4) fun G6 =>
  gLet (gsi G6 6 4 x0 ((gi G6 6 4 x0) + (1 : Int32))) fun G7 =>
  some G7)
  else (some G)
set_option maxHeartbeats 4000000 in
set_option maxRecDepth 100000 in
theorem c_X6_addYarn (l : Launch) (X : gX) (τ : gτ) (x0 : Nat) (x1 : Int32) (x2 : Int32) (x3 : Int32) (x4 : Int32) (G : gG) (h0 : gK τ x0 6) {G' : gG} (h : f_X6_addYarn τ x0 x1 x2 x3 x4 G = some G') : gM l X τ yX6_addYarn cX6_addYarn 6 none rm_X6_addYarn [.ref x0, .int x1, .int x2, .int x3, .int x4] G none G' := by
  refine g_body (by decide +kernel) (Nat.le_of_ble_eq_true rfl) ?_
  intro p e s m args below meth c ls fx hr hw hl
  have fx : gFx X p s m args meth c cX6_addYarn 6 RX6 := fx
  have hl : lv_has ls 6 [(0, .ref x0), (1, .int x1), (2, .int x2), (3, .int x3), (4, .int x4)] := hl
  have hok : gOk (f_X6_addYarn τ x0 x1 x2 x3 x4 G) (fun q => q = G') := ⟨_, h, rfl⟩
  unfold f_X6_addYarn at hok
  show W p l e rm_X6_addYarn s m args below meth c s.heap [] 0 0 (MQ below (gQ X τ none G') args s 0 0 (gFree X)) _
  refine lv_aload_n fx.1 fx.2.1 dX6_addYarn_0 rfl (lv_at hl 0 rfl) ?_
  refine g_geti fx hw h0 lf_RX6_43 rfl dX6_addYarn_1 ?_
  refine lv_bipush (v := 10) fx.1 fx.2.1 dX6_addYarn_4 (by decide) ?_
  refine g_icmp_lt (tgt := 10) fx dX6_addYarn_6 (by decide) hok (fun hok => ?_) (fun hok => ?_)
  · refine lv_aload_n fx.1 fx.2.1 dX6_addYarn_10 rfl (lv_at hl 0 rfl) ?_
    refine g_getr fx hw h0 lf_RX6_11 rfl dX6_addYarn_11 hok (fun a1 h_a1 hok => ?_)
    refine lv_aload_n fx.1 fx.2.1 dX6_addYarn_14 rfl (lv_at hl 0 rfl) ?_
    refine g_geti fx hw h0 lf_RX6_43 rfl dX6_addYarn_15 ?_
    refine g_aald fx hw 17 5 h_a1 (by decide) (by decide) rfl (κ' := 9) rfl dX6_addYarn_18 hok (fun a2 h_a2 hok => ?_)
    refine lv_astore (lv' := [(5, .ref a2), (0, .ref x0), (1, .int x1), (2, .int x2), (3, .int x3), (4, .int x4)]) fx.1 fx.2.1 dX6_addYarn_19 hl (by decide) rfl (fun ls hl => ?_)
    refine lv_aload fx.1 fx.2.1 dX6_addYarn_21 (lv_at hl 0 rfl) ?_
    refine lv_iload_n fx.1 fx.2.1 dX6_addYarn_23 rfl (lv_at hl 2 rfl) ?_
    refine g_puti fx hw h_a2 lp_RX6_86 rfl rfl dX6_addYarn_24 hok (fun G3 H locs hw hok => ?_)
    refine lv_aload fx.1 fx.2.1 dX6_addYarn_27 (lv_at hl 0 rfl) ?_
    refine lv_iload_n fx.1 fx.2.1 dX6_addYarn_29 rfl (lv_at hl 3 rfl) ?_
    refine g_puti fx hw h_a2 lp_RX6_89 rfl rfl dX6_addYarn_30 hok (fun G4 H locs hw hok => ?_)
    refine lv_aload fx.1 fx.2.1 dX6_addYarn_33 (lv_at hl 0 rfl) ?_
    refine lv_iload_n fx.1 fx.2.1 dX6_addYarn_35 rfl (lv_at hl 4 rfl) ?_
    refine g_puti fx hw h_a2 lp_RX6_92 rfl rfl dX6_addYarn_36 hok (fun G5 H locs hw hok => ?_)
    refine lv_aload fx.1 fx.2.1 dX6_addYarn_39 (lv_at hl 0 rfl) ?_
    refine lv_iload fx.1 fx.2.1 dX6_addYarn_41 (lv_at hl 5 rfl) ?_
    refine g_puti fx hw h_a2 lp_RX6_95 rfl rfl dX6_addYarn_43 hok (fun G6 H locs hw hok => ?_)
    refine lv_aload_n fx.1 fx.2.1 dX6_addYarn_46 rfl (lv_at hl 1 rfl) ?_
    refine lv_dup fx.1 fx.2.1 dX6_addYarn_47 rfl ?_
    refine g_geti fx hw h0 lf_RX6_43 rfl dX6_addYarn_48 ?_
    refine lv_iconst (v := 1) fx.1 fx.2.1 dX6_addYarn_51 (by decide) ?_
    refine lv_iadd fx.1 fx.2.1 dX6_addYarn_52 ?_
    refine g_puti fx hw h0 lp_RX6_43 rfl rfl dX6_addYarn_53 hok (fun G7 H locs hw hok => ?_)
    cases gOk_some hok
    exact g_vret fx hw hr dX6_addYarn_56
  · cases gOk_some hok
    exact g_vret fx hw hr dX6_addYarn_9
theorem dX6_yarnAt_0 : decode cX6_yarnAt 0 = .ok (.aload_n 0, 1) := by decide +kernel
theorem dX6_yarnAt_1 : decode cX6_yarnAt 1 = .ok (.getfield 11, 3) := by decide +kernel
theorem dX6_yarnAt_4 : decode cX6_yarnAt 4 = .ok (.iload_n 1, 1) := by decide +kernel
theorem dX6_yarnAt_5 : decode cX6_yarnAt 5 = .ok (.ifCond .lt 13, 3) := by decide +kernel
theorem dX6_yarnAt_8 : decode cX6_yarnAt 8 = .ok (.iload_n 1, 1) := by decide +kernel
theorem dX6_yarnAt_9 : decode cX6_yarnAt 9 = .ok (.bipush 10, 2) := by decide +kernel
theorem dX6_yarnAt_11 : decode cX6_yarnAt 11 = .ok (.if_icmp .ge 7, 3) := by decide +kernel
theorem dX6_yarnAt_14 : decode cX6_yarnAt 14 = .ok (.iload_n 1, 1) := by decide +kernel
theorem dX6_yarnAt_15 : decode cX6_yarnAt 15 = .ok (.goto 4, 3) := by decide +kernel
theorem dX6_yarnAt_18 : decode cX6_yarnAt 18 = .ok (.iconst 0, 1) := by decide +kernel
theorem dX6_yarnAt_19 : decode cX6_yarnAt 19 = .ok (.aaload, 1) := by decide +kernel
theorem dX6_yarnAt_20 : decode cX6_yarnAt 20 = .ok (.areturn, 1) := by decide +kernel
def rm_X6_yarnAt : Room := { frames := 0, cells := 0, slots := 0, locals := 0 }
def f_X6_yarnAt (τ : gτ) (x0 : Nat) (x1 : Int32) (G : gG) : Option (Nat) :=
  (gr G 6 0 x0).bind fun a1 =>
  if x1 < 0 then (gchk (gIn (0 : Int32) (gn τ a1)) <| (gq G a1 (Int32.toNatClampNeg (0 : Int32))).bind fun a2 =>
  some (a2))
  else (if (10 : Int32) ≤ x1 then (gchk (gIn (0 : Int32) (gn τ a1)) <| (gq G a1 (Int32.toNatClampNeg (0 : Int32))).bind fun a3 =>
  some (a3))
  else (gchk (gIn x1 (gn τ a1)) <| (gq G a1 (Int32.toNatClampNeg x1)).bind fun a4 =>
  some (a4)))
set_option maxHeartbeats 4000000 in
set_option maxRecDepth 100000 in
theorem c_X6_yarnAt (l : Launch) (X : gX) (τ : gτ) (x0 : Nat) (x1 : Int32) (G : gG) (h0 : gK τ x0 6) {r : Nat}  (h : f_X6_yarnAt τ x0 x1 G = some r) : gM l X τ yX6_yarnAt cX6_yarnAt 2 (some (.object "YearRope$Yarn")) rm_X6_yarnAt [.ref x0, .int x1] G (some (.ref r)) G := by
  refine g_body (by decide +kernel) (Nat.le_of_ble_eq_true rfl) ?_
  intro p e s m args below meth c ls fx hr hw hl
  have fx : gFx X p s m args meth c cX6_yarnAt 2 RX6 := fx
  have hl : lv_has ls 2 [(0, .ref x0), (1, .int x1)] := hl
  have hok : gOk (f_X6_yarnAt τ x0 x1 G) (fun q => q = r) := ⟨_, h, rfl⟩
  unfold f_X6_yarnAt at hok
  show W p l e rm_X6_yarnAt s m args below meth c s.heap [] 0 0 (MQ below (gQ X τ (some (.ref r)) G) args s 0 0 (gFree X)) _
  refine lv_aload_n fx.1 fx.2.1 dX6_yarnAt_0 rfl (lv_at hl 0 rfl) ?_
  refine g_getr fx hw h0 lf_RX6_11 rfl dX6_yarnAt_1 hok (fun a1 h_a1 hok => ?_)
  refine lv_iload_n fx.1 fx.2.1 dX6_yarnAt_4 rfl (lv_at hl 1 rfl) ?_
  refine g_if_lt (tgt := 18) fx dX6_yarnAt_5 (by decide) hok (fun hok => ?_) (fun hok => ?_)
  · refine lv_iconst (v := 0) fx.1 fx.2.1 dX6_yarnAt_18 (by decide) ?_
    refine g_aald fx hw 17 5 h_a1 (by decide) (by decide) rfl (κ' := 9) rfl dX6_yarnAt_19 hok (fun a2 h_a2 hok => ?_)
    cases gOk_some hok
    exact g_aret fx hw hr dX6_yarnAt_20
  · refine lv_iload_n fx.1 fx.2.1 dX6_yarnAt_8 rfl (lv_at hl 1 rfl) ?_
    refine lv_bipush (v := 10) fx.1 fx.2.1 dX6_yarnAt_9 (by decide) ?_
    refine g_icmp_ge (tgt := 18) fx dX6_yarnAt_11 (by decide) hok (fun hok => ?_) (fun hok => ?_)
    · refine lv_iconst (v := 0) fx.1 fx.2.1 dX6_yarnAt_18 (by decide) ?_
      refine g_aald fx hw 17 5 h_a1 (by decide) (by decide) rfl (κ' := 9) rfl dX6_yarnAt_19 hok (fun a3 h_a3 hok => ?_)
      cases gOk_some hok
      exact g_aret fx hw hr dX6_yarnAt_20
    · refine lv_iload_n fx.1 fx.2.1 dX6_yarnAt_14 rfl (lv_at hl 1 rfl) ?_
      refine lv_goto (tgt := 19) fx.1 fx.2.1 dX6_yarnAt_15 (by decide) ?_
      refine g_aald fx hw 17 5 h_a1 (by decide) (by decide) rfl (κ' := 9) rfl dX6_yarnAt_19 hok (fun a4 h_a4 hok => ?_)
      cases gOk_some hok
      exact g_aret fx hw hr dX6_yarnAt_20
theorem dX6_shortest_0 : decode cX6_shortest 0 = .ok (.aload_n 0, 1) := by decide +kernel
theorem dX6_shortest_1 : decode cX6_shortest 1 = .ok (.iload_n 1, 1) := by decide +kernel
theorem dX6_shortest_2 : decode cX6_shortest 2 = .ok (.invokevirtual 98, 3) := by decide +kernel
theorem dX6_shortest_5 : decode cX6_shortest 5 = .ok (.getfield 89, 3) := by decide +kernel
theorem dX6_shortest_8 : decode cX6_shortest 8 = .ok (.aload_n 0, 1) := by decide +kernel
theorem dX6_shortest_9 : decode cX6_shortest 9 = .ok (.iload_n 2, 1) := by decide +kernel
theorem dX6_shortest_10 : decode cX6_shortest 10 = .ok (.invokevirtual 98, 3) := by decide +kernel
theorem dX6_shortest_13 : decode cX6_shortest 13 = .ok (.getfield 89, 3) := by decide +kernel
theorem dX6_shortest_16 : decode cX6_shortest 16 = .ok (.invokestatic 102, 3) := by decide +kernel
theorem dX6_shortest_19 : decode cX6_shortest 19 = .ok (.istore 4, 2) := by decide +kernel
theorem dX6_shortest_21 : decode cX6_shortest 21 = .ok (.iload 4, 2) := by decide +kernel
theorem dX6_shortest_23 : decode cX6_shortest 23 = .ok (.aload_n 0, 1) := by decide +kernel
theorem dX6_shortest_24 : decode cX6_shortest 24 = .ok (.iload_n 3, 1) := by decide +kernel
theorem dX6_shortest_25 : decode cX6_shortest 25 = .ok (.invokevirtual 98, 3) := by decide +kernel
theorem dX6_shortest_28 : decode cX6_shortest 28 = .ok (.getfield 89, 3) := by decide +kernel
theorem dX6_shortest_31 : decode cX6_shortest 31 = .ok (.invokestatic 102, 3) := by decide +kernel
theorem dX6_shortest_34 : decode cX6_shortest 34 = .ok (.ireturn, 1) := by decide +kernel
theorem lv_RX6_98 : gLv RX6 98 RX6 yX6_yarnAt cX6_yarnAt 2 (some (.object "YearRope$Yarn")) 1 := gLv_of (wA_t (wt2 (List.mem_of_getElem? (i := 204) (by decide +kernel))) (by decide +kernel)) (wA_t (wt2 (List.mem_of_getElem? (i := 205) (by decide +kernel))) (by decide +kernel)) (wA_t (wt2 (List.mem_of_getElem? (i := 206) (by decide +kernel))) (by decide +kernel)) (wA_t (wt1 (List.mem_of_getElem? (i := 6) (by decide +kernel))) (by decide +kernel)) (wA_t (wt2 (List.mem_of_getElem? (i := 207) (by decide +kernel))) (by decide +kernel)) ⟨rfl, by decide +kernel, by decide +kernel, by decide +kernel⟩
theorem lf_RX6_89 : gLf RX6 89 9 1 := ⟨(RX9, TX9, 4), rfl, by decide, wA_t (wt1 (List.mem_of_getElem? (i := 138) (by decide +kernel))) (by decide +kernel), rfl⟩
theorem lm_RX6_102 : Cond.methodLink RX6 102 Lib.Math.min.name ∈ wA := wA_t (wt3 (List.mem_of_getElem? (i := 25) (by decide +kernel))) (by decide +kernel)
def rm_X6_shortest : Room := { frames := 1, cells := 0, slots := 0, locals := 21 }
def f_X6_shortest (τ : gτ) (x0 : Nat) (x1 : Int32) (x2 : Int32) (x3 : Int32) (G : gG) : Option (Int32) :=
  (f_X6_yarnAt τ x0 x1 G).bind fun a1 =>
  gchk (gkd τ a1 9) <|
  (f_X6_yarnAt τ x0 x2 G).bind fun a2 =>
  gchk (gkd τ a2 9) <|
  gLet (gmin (gi G 9 1 a1) (gi G 9 1 a2)) fun v3 =>
  (f_X6_yarnAt τ x0 x3 G).bind fun a4 =>
  gchk (gkd τ a4 9) <|
  some (gmin v3 (gi G 9 1 a4))
set_option maxHeartbeats 4000000 in
set_option maxRecDepth 100000 in
theorem c_X6_shortest (l : Launch) (X : gX) (τ : gτ) (x0 : Nat) (x1 : Int32) (x2 : Int32) (x3 : Int32) (G : gG) (h0 : gK τ x0 6) {r : Int32}  (h : f_X6_shortest τ x0 x1 x2 x3 G = some r) : gM l X τ yX6_shortest cX6_shortest 5 (some .int) rm_X6_shortest [.ref x0, .int x1, .int x2, .int x3] G (some (.int r)) G := by
  refine g_body (by decide +kernel) (Nat.le_of_ble_eq_true rfl) ?_
  intro p e s m args below meth c ls fx hr hw hl
  have fx : gFx X p s m args meth c cX6_shortest 5 RX6 := fx
  have hl : lv_has ls 5 [(0, .ref x0), (1, .int x1), (2, .int x2), (3, .int x3)] := hl
  have hok : gOk (f_X6_shortest τ x0 x1 x2 x3 G) (fun q => q = r) := ⟨_, h, rfl⟩
  unfold f_X6_shortest at hok
  show W p l e rm_X6_shortest s m args below meth c s.heap [] 0 0 (MQ below (gQ X τ (some (.int r)) G) args s 0 0 (gFree X)) _
  refine lv_aload_n fx.1 fx.2.1 dX6_shortest_0 rfl (lv_at hl 0 rfl) ?_
  refine lv_iload_n fx.1 fx.2.1 dX6_shortest_1 rfl (lv_at hl 1 rfl) ?_
  obtain ⟨a1, hf, hok⟩ := gOk_bind hok
  refine g_callV0 (κ := 6) fx hw (c_X6_yarnAt l X τ x0 x1 G h0 hf) lv_RX6_98 ⟨rfl, rfl⟩ rfl rfl h0 rfl hl.1 rfl ⟨Nat.le_of_ble_eq_true rfl, Nat.le_of_ble_eq_true rfl⟩ (Nat.le_of_ble_eq_true rfl) ⟨Nat.le_of_ble_eq_true rfl, Nat.le_of_ble_eq_true rfl⟩ dX6_shortest_2 (fun H locs hw => ?_)
  obtain ⟨h_a1, hok⟩ := gOk_chk hok
  have h_a1 : gK τ a1 9 := gkd_K h_a1
  refine g_geti fx hw h_a1 lf_RX6_89 rfl dX6_shortest_5 ?_
  refine lv_aload_n fx.1 fx.2.1 dX6_shortest_8 rfl (lv_at hl 0 rfl) ?_
  refine lv_iload_n fx.1 fx.2.1 dX6_shortest_9 rfl (lv_at hl 2 rfl) ?_
  obtain ⟨a2, hf, hok⟩ := gOk_bind hok
  refine g_callV0 (κ := 6) fx hw (c_X6_yarnAt l X τ x0 x2 G h0 hf) lv_RX6_98 ⟨rfl, rfl⟩ rfl rfl h0 rfl hl.1 rfl ⟨Nat.le_of_ble_eq_true rfl, Nat.le_of_ble_eq_true rfl⟩ (Nat.le_of_ble_eq_true rfl) ⟨Nat.le_of_ble_eq_true rfl, Nat.le_of_ble_eq_true rfl⟩ dX6_shortest_10 (fun H locs hw => ?_)
  obtain ⟨h_a2, hok⟩ := gOk_chk hok
  have h_a2 : gK τ a2 9 := gkd_K h_a2
  refine g_geti fx hw h_a2 lf_RX6_89 rfl dX6_shortest_13 ?_
  refine g_mmin fx hl.1 lm_RX6_102 lmst_min lm_init lmco_min ⟨Nat.le_of_ble_eq_true rfl, Nat.le_of_ble_eq_true rfl, Nat.le_of_ble_eq_true rfl, Nat.le_of_ble_eq_true rfl⟩ dX6_shortest_16 ?_
  refine g_leti hok (fun v3 hok => ?_)
  refine lv_istore (lv' := [(4, .int v3), (0, .ref x0), (1, .int x1), (2, .int x2), (3, .int x3)]) fx.1 fx.2.1 dX6_shortest_19 hl (by decide) rfl (fun ls hl => ?_)
  refine lv_iload fx.1 fx.2.1 dX6_shortest_21 (lv_at hl 0 rfl) ?_
  refine lv_aload_n fx.1 fx.2.1 dX6_shortest_23 rfl (lv_at hl 1 rfl) ?_
  refine lv_iload_n fx.1 fx.2.1 dX6_shortest_24 rfl (lv_at hl 4 rfl) ?_
  obtain ⟨a4, hf, hok⟩ := gOk_bind hok
  refine g_callV0 (κ := 6) fx hw (c_X6_yarnAt l X τ x0 x3 G h0 hf) lv_RX6_98 ⟨rfl, rfl⟩ rfl rfl h0 rfl hl.1 rfl ⟨Nat.le_of_ble_eq_true rfl, Nat.le_of_ble_eq_true rfl⟩ (Nat.le_of_ble_eq_true rfl) ⟨Nat.le_of_ble_eq_true rfl, Nat.le_of_ble_eq_true rfl⟩ dX6_shortest_25 (fun H locs hw => ?_)
  obtain ⟨h_a4, hok⟩ := gOk_chk hok
  have h_a4 : gK τ a4 9 := gkd_K h_a4
  refine g_geti fx hw h_a4 lf_RX6_89 rfl dX6_shortest_28 ?_
  refine g_mmin fx hl.1 lm_RX6_102 lmst_min lm_init lmco_min ⟨Nat.le_of_ble_eq_true rfl, Nat.le_of_ble_eq_true rfl, Nat.le_of_ble_eq_true rfl, Nat.le_of_ble_eq_true rfl⟩ dX6_shortest_31 ?_
  cases gOk_some hok
  exact g_iret fx hw hr dX6_shortest_34
theorem dX6_strengthOf_0 : decode cX6_strengthOf 0 = .ok (.aload_n 0, 1) := by decide +kernel
theorem dX6_strengthOf_1 : decode cX6_strengthOf 1 = .ok (.iload_n 1, 1) := by decide +kernel
theorem dX6_strengthOf_2 : decode cX6_strengthOf 2 = .ok (.invokevirtual 98, 3) := by decide +kernel
theorem dX6_strengthOf_5 : decode cX6_strengthOf 5 = .ok (.getfield 86, 3) := by decide +kernel
theorem dX6_strengthOf_8 : decode cX6_strengthOf 8 = .ok (.aload_n 0, 1) := by decide +kernel
theorem dX6_strengthOf_9 : decode cX6_strengthOf 9 = .ok (.iload_n 2, 1) := by decide +kernel
theorem dX6_strengthOf_10 : decode cX6_strengthOf 10 = .ok (.invokevirtual 98, 3) := by decide +kernel
theorem dX6_strengthOf_13 : decode cX6_strengthOf 13 = .ok (.getfield 86, 3) := by decide +kernel
theorem dX6_strengthOf_16 : decode cX6_strengthOf 16 = .ok (.iadd, 1) := by decide +kernel
theorem dX6_strengthOf_17 : decode cX6_strengthOf 17 = .ok (.aload_n 0, 1) := by decide +kernel
theorem dX6_strengthOf_18 : decode cX6_strengthOf 18 = .ok (.iload_n 3, 1) := by decide +kernel
theorem dX6_strengthOf_19 : decode cX6_strengthOf 19 = .ok (.invokevirtual 98, 3) := by decide +kernel
theorem dX6_strengthOf_22 : decode cX6_strengthOf 22 = .ok (.getfield 86, 3) := by decide +kernel
theorem dX6_strengthOf_25 : decode cX6_strengthOf 25 = .ok (.iadd, 1) := by decide +kernel
theorem dX6_strengthOf_26 : decode cX6_strengthOf 26 = .ok (.ireturn, 1) := by decide +kernel
theorem lf_RX6_86 : gLf RX6 86 9 0 := ⟨(RX9, TX9, 4), rfl, by decide, wA_t (wt1 (List.mem_of_getElem? (i := 134) (by decide +kernel))) (by decide +kernel), rfl⟩
def rm_X6_strengthOf : Room := { frames := 1, cells := 0, slots := 0, locals := 21 }
def f_X6_strengthOf (τ : gτ) (x0 : Nat) (x1 : Int32) (x2 : Int32) (x3 : Int32) (G : gG) : Option (Int32) :=
  (f_X6_yarnAt τ x0 x1 G).bind fun a1 =>
  gchk (gkd τ a1 9) <|
  (f_X6_yarnAt τ x0 x2 G).bind fun a2 =>
  gchk (gkd τ a2 9) <|
  (f_X6_yarnAt τ x0 x3 G).bind fun a3 =>
  gchk (gkd τ a3 9) <|
  some (((gi G 9 0 a1) + (gi G 9 0 a2)) + (gi G 9 0 a3))
set_option maxHeartbeats 4000000 in
set_option maxRecDepth 100000 in
theorem c_X6_strengthOf (l : Launch) (X : gX) (τ : gτ) (x0 : Nat) (x1 : Int32) (x2 : Int32) (x3 : Int32) (G : gG) (h0 : gK τ x0 6) {r : Int32}  (h : f_X6_strengthOf τ x0 x1 x2 x3 G = some r) : gM l X τ yX6_strengthOf cX6_strengthOf 4 (some .int) rm_X6_strengthOf [.ref x0, .int x1, .int x2, .int x3] G (some (.int r)) G := by
  refine g_body (by decide +kernel) (Nat.le_of_ble_eq_true rfl) ?_
  intro p e s m args below meth c ls fx hr hw hl
  have fx : gFx X p s m args meth c cX6_strengthOf 4 RX6 := fx
  have hl : lv_has ls 4 [(0, .ref x0), (1, .int x1), (2, .int x2), (3, .int x3)] := hl
  have hok : gOk (f_X6_strengthOf τ x0 x1 x2 x3 G) (fun q => q = r) := ⟨_, h, rfl⟩
  unfold f_X6_strengthOf at hok
  show W p l e rm_X6_strengthOf s m args below meth c s.heap [] 0 0 (MQ below (gQ X τ (some (.int r)) G) args s 0 0 (gFree X)) _
  refine lv_aload_n fx.1 fx.2.1 dX6_strengthOf_0 rfl (lv_at hl 0 rfl) ?_
  refine lv_iload_n fx.1 fx.2.1 dX6_strengthOf_1 rfl (lv_at hl 1 rfl) ?_
  obtain ⟨a1, hf, hok⟩ := gOk_bind hok
  refine g_callV0 (κ := 6) fx hw (c_X6_yarnAt l X τ x0 x1 G h0 hf) lv_RX6_98 ⟨rfl, rfl⟩ rfl rfl h0 rfl hl.1 rfl ⟨Nat.le_of_ble_eq_true rfl, Nat.le_of_ble_eq_true rfl⟩ (Nat.le_of_ble_eq_true rfl) ⟨Nat.le_of_ble_eq_true rfl, Nat.le_of_ble_eq_true rfl⟩ dX6_strengthOf_2 (fun H locs hw => ?_)
  obtain ⟨h_a1, hok⟩ := gOk_chk hok
  have h_a1 : gK τ a1 9 := gkd_K h_a1
  refine g_geti fx hw h_a1 lf_RX6_86 rfl dX6_strengthOf_5 ?_
  refine lv_aload_n fx.1 fx.2.1 dX6_strengthOf_8 rfl (lv_at hl 0 rfl) ?_
  refine lv_iload_n fx.1 fx.2.1 dX6_strengthOf_9 rfl (lv_at hl 2 rfl) ?_
  obtain ⟨a2, hf, hok⟩ := gOk_bind hok
  refine g_callV0 (κ := 6) fx hw (c_X6_yarnAt l X τ x0 x2 G h0 hf) lv_RX6_98 ⟨rfl, rfl⟩ rfl rfl h0 rfl hl.1 rfl ⟨Nat.le_of_ble_eq_true rfl, Nat.le_of_ble_eq_true rfl⟩ (Nat.le_of_ble_eq_true rfl) ⟨Nat.le_of_ble_eq_true rfl, Nat.le_of_ble_eq_true rfl⟩ dX6_strengthOf_10 (fun H locs hw => ?_)
  obtain ⟨h_a2, hok⟩ := gOk_chk hok
  have h_a2 : gK τ a2 9 := gkd_K h_a2
  refine g_geti fx hw h_a2 lf_RX6_86 rfl dX6_strengthOf_13 ?_
  refine lv_iadd fx.1 fx.2.1 dX6_strengthOf_16 ?_
  refine lv_aload_n fx.1 fx.2.1 dX6_strengthOf_17 rfl (lv_at hl 0 rfl) ?_
  refine lv_iload_n fx.1 fx.2.1 dX6_strengthOf_18 rfl (lv_at hl 3 rfl) ?_
  obtain ⟨a3, hf, hok⟩ := gOk_bind hok
  refine g_callV0 (κ := 6) fx hw (c_X6_yarnAt l X τ x0 x3 G h0 hf) lv_RX6_98 ⟨rfl, rfl⟩ rfl rfl h0 rfl hl.1 rfl ⟨Nat.le_of_ble_eq_true rfl, Nat.le_of_ble_eq_true rfl⟩ (Nat.le_of_ble_eq_true rfl) ⟨Nat.le_of_ble_eq_true rfl, Nat.le_of_ble_eq_true rfl⟩ dX6_strengthOf_19 (fun H locs hw => ?_)
  obtain ⟨h_a3, hok⟩ := gOk_chk hok
  have h_a3 : gK τ a3 9 := gkd_K h_a3
  refine g_geti fx hw h_a3 lf_RX6_86 rfl dX6_strengthOf_22 ?_
  refine lv_iadd fx.1 fx.2.1 dX6_strengthOf_25 ?_
  cases gOk_some hok
  exact g_iret fx hw hr dX6_strengthOf_26
theorem dX6_rotOf_0 : decode cX6_rotOf 0 = .ok (.aload_n 0, 1) := by decide +kernel
theorem dX6_rotOf_1 : decode cX6_rotOf 1 = .ok (.iload_n 1, 1) := by decide +kernel
theorem dX6_rotOf_2 : decode cX6_rotOf 2 = .ok (.invokevirtual 98, 3) := by decide +kernel
theorem dX6_rotOf_5 : decode cX6_rotOf 5 = .ok (.getfield 92, 3) := by decide +kernel
theorem dX6_rotOf_8 : decode cX6_rotOf 8 = .ok (.aload_n 0, 1) := by decide +kernel
theorem dX6_rotOf_9 : decode cX6_rotOf 9 = .ok (.iload_n 2, 1) := by decide +kernel
theorem dX6_rotOf_10 : decode cX6_rotOf 10 = .ok (.invokevirtual 98, 3) := by decide +kernel
theorem dX6_rotOf_13 : decode cX6_rotOf 13 = .ok (.getfield 92, 3) := by decide +kernel
theorem dX6_rotOf_16 : decode cX6_rotOf 16 = .ok (.iadd, 1) := by decide +kernel
theorem dX6_rotOf_17 : decode cX6_rotOf 17 = .ok (.aload_n 0, 1) := by decide +kernel
theorem dX6_rotOf_18 : decode cX6_rotOf 18 = .ok (.iload_n 3, 1) := by decide +kernel
theorem dX6_rotOf_19 : decode cX6_rotOf 19 = .ok (.invokevirtual 98, 3) := by decide +kernel
theorem dX6_rotOf_22 : decode cX6_rotOf 22 = .ok (.getfield 92, 3) := by decide +kernel
theorem dX6_rotOf_25 : decode cX6_rotOf 25 = .ok (.iadd, 1) := by decide +kernel
theorem dX6_rotOf_26 : decode cX6_rotOf 26 = .ok (.ireturn, 1) := by decide +kernel
theorem lf_RX6_92 : gLf RX6 92 9 2 := ⟨(RX9, TX9, 4), rfl, by decide, wA_t (wt1 (List.mem_of_getElem? (i := 141) (by decide +kernel))) (by decide +kernel), rfl⟩
def rm_X6_rotOf : Room := { frames := 1, cells := 0, slots := 0, locals := 21 }
def f_X6_rotOf (τ : gτ) (x0 : Nat) (x1 : Int32) (x2 : Int32) (x3 : Int32) (G : gG) : Option (Int32) :=
  (f_X6_yarnAt τ x0 x1 G).bind fun a1 =>
  gchk (gkd τ a1 9) <|
  (f_X6_yarnAt τ x0 x2 G).bind fun a2 =>
  gchk (gkd τ a2 9) <|
  (f_X6_yarnAt τ x0 x3 G).bind fun a3 =>
  gchk (gkd τ a3 9) <|
  some (((gi G 9 2 a1) + (gi G 9 2 a2)) + (gi G 9 2 a3))
set_option maxHeartbeats 4000000 in
set_option maxRecDepth 100000 in
theorem c_X6_rotOf (l : Launch) (X : gX) (τ : gτ) (x0 : Nat) (x1 : Int32) (x2 : Int32) (x3 : Int32) (G : gG) (h0 : gK τ x0 6) {r : Int32}  (h : f_X6_rotOf τ x0 x1 x2 x3 G = some r) : gM l X τ yX6_rotOf cX6_rotOf 4 (some .int) rm_X6_rotOf [.ref x0, .int x1, .int x2, .int x3] G (some (.int r)) G := by
  refine g_body (by decide +kernel) (Nat.le_of_ble_eq_true rfl) ?_
  intro p e s m args below meth c ls fx hr hw hl
  have fx : gFx X p s m args meth c cX6_rotOf 4 RX6 := fx
  have hl : lv_has ls 4 [(0, .ref x0), (1, .int x1), (2, .int x2), (3, .int x3)] := hl
  have hok : gOk (f_X6_rotOf τ x0 x1 x2 x3 G) (fun q => q = r) := ⟨_, h, rfl⟩
  unfold f_X6_rotOf at hok
  show W p l e rm_X6_rotOf s m args below meth c s.heap [] 0 0 (MQ below (gQ X τ (some (.int r)) G) args s 0 0 (gFree X)) _
  refine lv_aload_n fx.1 fx.2.1 dX6_rotOf_0 rfl (lv_at hl 0 rfl) ?_
  refine lv_iload_n fx.1 fx.2.1 dX6_rotOf_1 rfl (lv_at hl 1 rfl) ?_
  obtain ⟨a1, hf, hok⟩ := gOk_bind hok
  refine g_callV0 (κ := 6) fx hw (c_X6_yarnAt l X τ x0 x1 G h0 hf) lv_RX6_98 ⟨rfl, rfl⟩ rfl rfl h0 rfl hl.1 rfl ⟨Nat.le_of_ble_eq_true rfl, Nat.le_of_ble_eq_true rfl⟩ (Nat.le_of_ble_eq_true rfl) ⟨Nat.le_of_ble_eq_true rfl, Nat.le_of_ble_eq_true rfl⟩ dX6_rotOf_2 (fun H locs hw => ?_)
  obtain ⟨h_a1, hok⟩ := gOk_chk hok
  have h_a1 : gK τ a1 9 := gkd_K h_a1
  refine g_geti fx hw h_a1 lf_RX6_92 rfl dX6_rotOf_5 ?_
  refine lv_aload_n fx.1 fx.2.1 dX6_rotOf_8 rfl (lv_at hl 0 rfl) ?_
  refine lv_iload_n fx.1 fx.2.1 dX6_rotOf_9 rfl (lv_at hl 2 rfl) ?_
  obtain ⟨a2, hf, hok⟩ := gOk_bind hok
  refine g_callV0 (κ := 6) fx hw (c_X6_yarnAt l X τ x0 x2 G h0 hf) lv_RX6_98 ⟨rfl, rfl⟩ rfl rfl h0 rfl hl.1 rfl ⟨Nat.le_of_ble_eq_true rfl, Nat.le_of_ble_eq_true rfl⟩ (Nat.le_of_ble_eq_true rfl) ⟨Nat.le_of_ble_eq_true rfl, Nat.le_of_ble_eq_true rfl⟩ dX6_rotOf_10 (fun H locs hw => ?_)
  obtain ⟨h_a2, hok⟩ := gOk_chk hok
  have h_a2 : gK τ a2 9 := gkd_K h_a2
  refine g_geti fx hw h_a2 lf_RX6_92 rfl dX6_rotOf_13 ?_
  refine lv_iadd fx.1 fx.2.1 dX6_rotOf_16 ?_
  refine lv_aload_n fx.1 fx.2.1 dX6_rotOf_17 rfl (lv_at hl 0 rfl) ?_
  refine lv_iload_n fx.1 fx.2.1 dX6_rotOf_18 rfl (lv_at hl 3 rfl) ?_
  obtain ⟨a3, hf, hok⟩ := gOk_bind hok
  refine g_callV0 (κ := 6) fx hw (c_X6_yarnAt l X τ x0 x3 G h0 hf) lv_RX6_98 ⟨rfl, rfl⟩ rfl rfl h0 rfl hl.1 rfl ⟨Nat.le_of_ble_eq_true rfl, Nat.le_of_ble_eq_true rfl⟩ (Nat.le_of_ble_eq_true rfl) ⟨Nat.le_of_ble_eq_true rfl, Nat.le_of_ble_eq_true rfl⟩ dX6_rotOf_19 (fun H locs hw => ?_)
  obtain ⟨h_a3, hok⟩ := gOk_chk hok
  have h_a3 : gK τ a3 9 := gkd_K h_a3
  refine g_geti fx hw h_a3 lf_RX6_92 rfl dX6_rotOf_22 ?_
  refine lv_iadd fx.1 fx.2.1 dX6_rotOf_25 ?_
  cases gOk_some hok
  exact g_iret fx hw hr dX6_rotOf_26
theorem dX6_usesOf_0 : decode cX6_usesOf 0 = .ok (.iconst 0, 1) := by decide +kernel
theorem dX6_usesOf_1 : decode cX6_usesOf 1 = .ok (.istore_n 2, 1) := by decide +kernel
theorem dX6_usesOf_2 : decode cX6_usesOf 2 = .ok (.iconst 0, 1) := by decide +kernel
theorem dX6_usesOf_3 : decode cX6_usesOf 3 = .ok (.istore_n 3, 1) := by decide +kernel
theorem dX6_usesOf_4 : decode cX6_usesOf 4 = .ok (.iload_n 3, 1) := by decide +kernel
theorem dX6_usesOf_5 : decode cX6_usesOf 5 = .ok (.aload_n 0, 1) := by decide +kernel
theorem dX6_usesOf_6 : decode cX6_usesOf 6 = .ok (.getfield 50, 3) := by decide +kernel
theorem dX6_usesOf_9 : decode cX6_usesOf 9 = .ok (.if_icmp .ge 28, 3) := by decide +kernel
theorem dX6_usesOf_12 : decode cX6_usesOf 12 = .ok (.aload_n 0, 1) := by decide +kernel
theorem dX6_usesOf_13 : decode cX6_usesOf 13 = .ok (.getfield 19, 3) := by decide +kernel
theorem dX6_usesOf_16 : decode cX6_usesOf 16 = .ok (.iload_n 3, 1) := by decide +kernel
theorem dX6_usesOf_17 : decode cX6_usesOf 17 = .ok (.aaload, 1) := by decide +kernel
theorem dX6_usesOf_18 : decode cX6_usesOf 18 = .ok (.iload_n 1, 1) := by decide +kernel
theorem dX6_usesOf_19 : decode cX6_usesOf 19 = .ok (.invokevirtual 108, 3) := by decide +kernel
theorem dX6_usesOf_22 : decode cX6_usesOf 22 = .ok (.ifCond .eq 9, 3) := by decide +kernel
theorem dX6_usesOf_25 : decode cX6_usesOf 25 = .ok (.iload_n 2, 1) := by decide +kernel
theorem dX6_usesOf_26 : decode cX6_usesOf 26 = .ok (.iconst 1, 1) := by decide +kernel
theorem dX6_usesOf_27 : decode cX6_usesOf 27 = .ok (.iload_n 3, 1) := by decide +kernel
theorem dX6_usesOf_28 : decode cX6_usesOf 28 = .ok (.ishl, 1) := by decide +kernel
theorem dX6_usesOf_29 : decode cX6_usesOf 29 = .ok (.ior, 1) := by decide +kernel
theorem dX6_usesOf_30 : decode cX6_usesOf 30 = .ok (.istore_n 2, 1) := by decide +kernel
theorem dX6_usesOf_31 : decode cX6_usesOf 31 = .ok (.iinc 3 1, 3) := by decide +kernel
theorem dX6_usesOf_34 : decode cX6_usesOf 34 = .ok (.goto (-30), 3) := by decide +kernel
theorem dX6_usesOf_37 : decode cX6_usesOf 37 = .ok (.iload_n 2, 1) := by decide +kernel
theorem dX6_usesOf_38 : decode cX6_usesOf 38 = .ok (.ireturn, 1) := by decide +kernel
theorem lv_RX6_108 : gLv RX6 108 RX5 yX5_isOf cX5_isOf 2 (some .boolean) 1 := gLv_of (wA_t (wt5 (List.mem_of_getElem? (i := 30) (by decide +kernel))) (by decide +kernel)) (wA_t (wt5 (List.mem_of_getElem? (i := 31) (by decide +kernel))) (by decide +kernel)) (wA_t (wt5 (List.mem_of_getElem? (i := 32) (by decide +kernel))) (by decide +kernel)) (wA_t (wt1 (List.mem_of_getElem? (i := 9) (by decide +kernel))) (by decide +kernel)) (wA_t (wt5 (List.mem_of_getElem? (i := 33) (by decide +kernel))) (by decide +kernel)) ⟨rfl, by decide +kernel, by decide +kernel, by decide +kernel⟩
def rm_X6_usesOf : Room := { frames := 1, cells := 0, slots := 0, locals := 21 }
def b_X6_usesOf_4 (τ : gτ) (n : Nat) (x0 : Nat) (x1 : Int32) (x2 : Int32) (x3 : Int32) (G : gG) : Option ((Int32 × Int32) ⊕ ((Int32))) :=
  if (gi G 6 5 x0) ≤ x3 then (some (.inr x2))
  else ((gr G 6 1 x0).bind fun a1 =>
  gchk (gIn x3 (gn τ a1)) <| (gq G a1 (Int32.toNatClampNeg x3)).bind fun a2 =>
  (f_X5_isOf a2 x1 G).bind fun v3 =>
  if v3 = 0 then (gLet (x3 + 1) fun v4 =>
  some (.inl (x2, v4)))
  else (gLet (x2 ||| ((1 : Int32) <<< (x3 &&& 31))) fun v5 =>
  gLet (x3 + 1) fun v6 =>
  some (.inl (v5, v6))))
def l_X6_usesOf_4 (τ : gτ) (n : Nat) (x0 : Nat) (x1 : Int32) (x2 : Int32) (x3 : Int32) (G : gG) : Option ((Int32)) :=
  gIter (fun (q : Int32 × Int32) => b_X6_usesOf_4 τ n x0 x1 q.1 q.2 G) n (x2, x3)
def f_X6_usesOf (τ : gτ) (n : Nat) (x0 : Nat) (x1 : Int32) (G : gG) : Option (Int32) :=
  (l_X6_usesOf_4 τ n x0 x1 (0 : Int32) (0 : Int32) G).bind fun q => gLet q fun z7 => 
  some (z7)
set_option maxHeartbeats 4000000 in
set_option maxRecDepth 100000 in
theorem w_b_X6_usesOf_4 {X : gX} {τ : gτ} {p : Program} {l : Launch} {e : Env} {s : State} {m : MethodId} {args : Array Value} {below : List Frame} {meth : Method} {c : Code} (fx : gFx X p s m args meth c cX6_usesOf 4 RX6) (n : Nat) (x0 : Nat) (x1 : Int32) (x2 : Int32) (x3 : Int32) (h0 : gK τ x0 6) {Q : State → Prop} {K : ((Int32 × Int32) ⊕ ((Int32))) → Prop} {G : gG} {H : Heap} {locs : List Loc} {ls : Array Slot} (hw : gHw X τ G H locs) (hl : lv_has ls 4 [(0, .ref x0), (1, .int x1), (2, .int x2), (3, .int x3)]) (hok : gOk (b_X6_usesOf_4 τ n x0 x1 x2 x3 G) K) (hc : ∀ (y2 : Int32) (y3 : Int32) (H : Heap) (locs : List Loc) (ls : Array Slot), gHw X τ G H locs → lv_has ls 4 [(0, .ref x0), (1, .int x1), (2, .int y2), (3, .int y3)] → K (.inl (y2, y3)) → W p l e rm_X6_usesOf s m args below meth c H locs 0 0 Q (F0 m 4 ls [])) (hx0 : ∀ (y2 : Int32) (H : Heap) (locs : List Loc) (ls : Array Slot), gHw X τ G H locs → lv_has ls 4 [(2, .int y2)] → K (.inr y2) → W p l e rm_X6_usesOf s m args below meth c H locs 0 0 Q (F0 m 37 ls [])) : W p l e rm_X6_usesOf s m args below meth c H locs 0 0 Q (F0 m 4 ls []) := by
  unfold b_X6_usesOf_4 at hok
  refine lv_iload_n fx.1 fx.2.1 dX6_usesOf_4 rfl (lv_at hl 3 rfl) ?_
  refine lv_aload_n fx.1 fx.2.1 dX6_usesOf_5 rfl (lv_at hl 0 rfl) ?_
  refine g_geti fx hw h0 lf_RX6_50 rfl dX6_usesOf_6 ?_
  refine g_icmp_ge (tgt := 37) fx dX6_usesOf_9 (by decide) hok (fun hok => ?_) (fun hok => ?_)
  · exact hx0 x2  _ _ _  hw (lv_sub hl [2] rfl) (gOk_some hok)
  · refine lv_aload_n fx.1 fx.2.1 dX6_usesOf_12 rfl (lv_at hl 0 rfl) ?_
    refine g_getr fx hw h0 lf_RX6_19 rfl dX6_usesOf_13 hok (fun a1 h_a1 hok => ?_)
    refine lv_iload_n fx.1 fx.2.1 dX6_usesOf_16 rfl (lv_at hl 3 rfl) ?_
    refine g_aald fx hw 15 3 h_a1 (by decide) (by decide) rfl (κ' := 5) rfl dX6_usesOf_17 hok (fun a2 h_a2 hok => ?_)
    refine lv_iload_n fx.1 fx.2.1 dX6_usesOf_18 rfl (lv_at hl 1 rfl) ?_
    obtain ⟨v3, hf, hok⟩ := gOk_bind hok
    refine g_callV0 (κ := 5) fx hw (c_X5_isOf l X τ a2 x1 G h_a2 hf) lv_RX6_108 ⟨rfl, rfl⟩ rfl rfl h_a2 rfl hl.1 rfl ⟨Nat.le_of_ble_eq_true rfl, Nat.le_of_ble_eq_true rfl⟩ (Nat.le_of_ble_eq_true rfl) ⟨Nat.le_of_ble_eq_true rfl, Nat.le_of_ble_eq_true rfl⟩ dX6_usesOf_19 (fun H locs hw => ?_)
    refine g_if_eq (tgt := 31) fx dX6_usesOf_22 (by decide) hok (fun hok => ?_) (fun hok => ?_)
    · obtain ⟨v4, e_v4, hok⟩ := gOk_let hok
      refine lv_iinc (v := v4) (lv' := [(3, .int v4), (0, .ref x0), (1, .int x1), (2, .int x2)]) fx.1 fx.2.1 dX6_usesOf_31 hl (k := 3) rfl (by rw [e_v4]; rfl) (by decide) rfl (fun ls hl => ?_)
      refine lv_goto (tgt := 4) fx.1 fx.2.1 dX6_usesOf_34 (by decide) ?_
      exact hc x2 v4  _ _ _  hw (lv_sub hl [1, 2, 3, 0] rfl) (gOk_some hok)
    · refine lv_iload_n fx.1 fx.2.1 dX6_usesOf_25 rfl (lv_at hl 2 rfl) ?_
      refine lv_iconst (v := 1) fx.1 fx.2.1 dX6_usesOf_26 (by decide) ?_
      refine lv_iload_n fx.1 fx.2.1 dX6_usesOf_27 rfl (lv_at hl 3 rfl) ?_
      refine lv_ishl fx.1 fx.2.1 dX6_usesOf_28 ?_
      refine lv_ior fx.1 fx.2.1 dX6_usesOf_29 ?_
      refine g_leti hok (fun v5 hok => ?_)
      refine lv_istore_n (lv' := [(2, .int v5), (0, .ref x0), (1, .int x1), (3, .int x3)]) fx.1 fx.2.1 dX6_usesOf_30 rfl hl (by decide) rfl (fun ls hl => ?_)
      obtain ⟨v6, e_v6, hok⟩ := gOk_let hok
      refine lv_iinc (v := v6) (lv' := [(3, .int v6), (2, .int v5), (0, .ref x0), (1, .int x1)]) fx.1 fx.2.1 dX6_usesOf_31 hl (k := 3) rfl (by rw [e_v6]; rfl) (by decide) rfl (fun ls hl => ?_)
      refine lv_goto (tgt := 4) fx.1 fx.2.1 dX6_usesOf_34 (by decide) ?_
      exact hc v5 v6  _ _ _  hw (lv_sub hl [2, 3, 1, 0] rfl) (gOk_some hok)
theorem w_l_X6_usesOf_4 {X : gX} {τ : gτ} {p : Program} {l : Launch} {e : Env} {s : State} {m : MethodId} {args : Array Value} {below : List Frame} {meth : Method} {c : Code} (fx : gFx X p s m args meth c cX6_usesOf 4 RX6) (n : Nat) (x0 : Nat) (x1 : Int32) (h0 : gK τ x0 6) (G : gG) {Q : State → Prop} {K : ((Int32)) → Prop} (hx0 : ∀ (y2 : Int32) (H : Heap) (locs : List Loc) (ls : Array Slot), gHw X τ G H locs → lv_has ls 4 [(2, .int y2)] → K y2 → W p l e rm_X6_usesOf s m args below meth c H locs 0 0 Q (F0 m 37 ls [])) : ∀ (k : Nat) (x2 : Int32) (x3 : Int32) (H : Heap) (locs : List Loc) (ls : Array Slot), gHw X τ G H locs → lv_has ls 4 [(0, .ref x0), (1, .int x1), (2, .int x2), (3, .int x3)] → gOk (gIter (fun (q : Int32 × Int32) => b_X6_usesOf_4 τ n x0 x1 q.1 q.2 G) k (x2, x3)) K → W p l e rm_X6_usesOf s m args below meth c H locs 0 0 Q (F0 m 4 ls []) := by
  intro k
  induction k with
  | zero =>
    intro x2 x3  H locs ls hw hl hok
    exact gOk_iter0 hok
  | succ k hc =>
    intro x2 x3  H locs ls hw hl hok
    exact w_b_X6_usesOf_4 fx n x0 x1 x2 x3 h0 hw hl (gOk_iter hok) hc hx0
set_option maxHeartbeats 4000000 in
set_option maxRecDepth 100000 in
theorem c_X6_usesOf (l : Launch) (X : gX) (τ : gτ) (n : Nat) (x0 : Nat) (x1 : Int32) (G : gG) (h0 : gK τ x0 6) {r : Int32}  (h : f_X6_usesOf τ n x0 x1 G = some r) : gM l X τ yX6_usesOf cX6_usesOf 4 (some .int) rm_X6_usesOf [.ref x0, .int x1] G (some (.int r)) G := by
  refine g_body (by decide +kernel) (Nat.le_of_ble_eq_true rfl) ?_
  intro p e s m args below meth c ls fx hr hw hl
  have fx : gFx X p s m args meth c cX6_usesOf 4 RX6 := fx
  have hl : lv_has ls 4 [(0, .ref x0), (1, .int x1)] := hl
  have hok : gOk (f_X6_usesOf τ n x0 x1 G) (fun q => q = r) := ⟨_, h, rfl⟩
  unfold f_X6_usesOf at hok
  show W p l e rm_X6_usesOf s m args below meth c s.heap [] 0 0 (MQ below (gQ X τ (some (.int r)) G) args s 0 0 (gFree X)) _
  refine lv_iconst (v := 0) fx.1 fx.2.1 dX6_usesOf_0 (by decide) ?_
  refine lv_istore_n (lv' := [(2, .int (0 : Int32)), (0, .ref x0), (1, .int x1)]) fx.1 fx.2.1 dX6_usesOf_1 rfl hl (by decide) rfl (fun ls hl => ?_)
  refine lv_iconst (v := 0) fx.1 fx.2.1 dX6_usesOf_2 (by decide) ?_
  refine lv_istore_n (lv' := [(3, .int (0 : Int32)), (2, .int (0 : Int32)), (0, .ref x0), (1, .int x1)]) fx.1 fx.2.1 dX6_usesOf_3 rfl hl (by decide) rfl (fun ls hl => ?_)
  refine w_l_X6_usesOf_4 fx n x0 x1 h0 G ?_ n (0 : Int32) (0 : Int32)  _ _ _  hw (lv_sub hl [2, 3, 1, 0] rfl) (gOk_bindK hok)
  intro z7  H locs ls hw hl hok
  have hok : gOk (ρ := Int32) (some (z7)) _ := hok
  refine lv_iload_n fx.1 fx.2.1 dX6_usesOf_37 rfl (lv_at hl 0 rfl) ?_
  cases gOk_some hok
  exact g_iret fx hw hr dX6_usesOf_38
theorem dX6_addRope_0 : decode cX6_addRope 0 = .ok (.aload_n 0, 1) := by decide +kernel
theorem dX6_addRope_1 : decode cX6_addRope 1 = .ok (.getfield 50, 3) := by decide +kernel
theorem dX6_addRope_4 : decode cX6_addRope 4 = .ok (.bipush 8, 2) := by decide +kernel
theorem dX6_addRope_6 : decode cX6_addRope 6 = .ok (.if_icmp .lt 5, 3) := by decide +kernel
theorem dX6_addRope_9 : decode cX6_addRope 9 = .ok (.iconst (-1), 1) := by decide +kernel
theorem dX6_addRope_10 : decode cX6_addRope 10 = .ok (.ireturn, 1) := by decide +kernel
theorem dX6_addRope_11 : decode cX6_addRope 11 = .ok (.aload_n 0, 1) := by decide +kernel
theorem dX6_addRope_12 : decode cX6_addRope 12 = .ok (.iload_n 1, 1) := by decide +kernel
theorem dX6_addRope_13 : decode cX6_addRope 13 = .ok (.invokevirtual 98, 3) := by decide +kernel
theorem dX6_addRope_16 : decode cX6_addRope 16 = .ok (.dup, 1) := by decide +kernel
theorem dX6_addRope_17 : decode cX6_addRope 17 = .ok (.getfield 89, 3) := by decide +kernel
theorem dX6_addRope_20 : decode cX6_addRope 20 = .ok (.iload 4, 2) := by decide +kernel
theorem dX6_addRope_22 : decode cX6_addRope 22 = .ok (.isub, 1) := by decide +kernel
theorem dX6_addRope_23 : decode cX6_addRope 23 = .ok (.putfield 89, 3) := by decide +kernel
theorem dX6_addRope_26 : decode cX6_addRope 26 = .ok (.aload_n 0, 1) := by decide +kernel
theorem dX6_addRope_27 : decode cX6_addRope 27 = .ok (.iload_n 2, 1) := by decide +kernel
theorem dX6_addRope_28 : decode cX6_addRope 28 = .ok (.invokevirtual 98, 3) := by decide +kernel
theorem dX6_addRope_31 : decode cX6_addRope 31 = .ok (.dup, 1) := by decide +kernel
theorem dX6_addRope_32 : decode cX6_addRope 32 = .ok (.getfield 89, 3) := by decide +kernel
theorem dX6_addRope_35 : decode cX6_addRope 35 = .ok (.iload 4, 2) := by decide +kernel
theorem dX6_addRope_37 : decode cX6_addRope 37 = .ok (.isub, 1) := by decide +kernel
theorem dX6_addRope_38 : decode cX6_addRope 38 = .ok (.putfield 89, 3) := by decide +kernel
theorem dX6_addRope_41 : decode cX6_addRope 41 = .ok (.aload_n 0, 1) := by decide +kernel
theorem dX6_addRope_42 : decode cX6_addRope 42 = .ok (.iload_n 3, 1) := by decide +kernel
theorem dX6_addRope_43 : decode cX6_addRope 43 = .ok (.invokevirtual 98, 3) := by decide +kernel
theorem dX6_addRope_46 : decode cX6_addRope 46 = .ok (.dup, 1) := by decide +kernel
theorem dX6_addRope_47 : decode cX6_addRope 47 = .ok (.getfield 89, 3) := by decide +kernel
theorem dX6_addRope_50 : decode cX6_addRope 50 = .ok (.iload 4, 2) := by decide +kernel
theorem dX6_addRope_52 : decode cX6_addRope 52 = .ok (.isub, 1) := by decide +kernel
theorem dX6_addRope_53 : decode cX6_addRope 53 = .ok (.putfield 89, 3) := by decide +kernel
theorem dX6_addRope_56 : decode cX6_addRope 56 = .ok (.aload_n 0, 1) := by decide +kernel
theorem dX6_addRope_57 : decode cX6_addRope 57 = .ok (.getfield 19, 3) := by decide +kernel
theorem dX6_addRope_60 : decode cX6_addRope 60 = .ok (.aload_n 0, 1) := by decide +kernel
theorem dX6_addRope_61 : decode cX6_addRope 61 = .ok (.getfield 50, 3) := by decide +kernel
theorem dX6_addRope_64 : decode cX6_addRope 64 = .ok (.aaload, 1) := by decide +kernel
theorem dX6_addRope_65 : decode cX6_addRope 65 = .ok (.iload_n 1, 1) := by decide +kernel
theorem dX6_addRope_66 : decode cX6_addRope 66 = .ok (.iload_n 2, 1) := by decide +kernel
theorem dX6_addRope_67 : decode cX6_addRope 67 = .ok (.iload_n 3, 1) := by decide +kernel
theorem dX6_addRope_68 : decode cX6_addRope 68 = .ok (.iload 4, 2) := by decide +kernel
theorem dX6_addRope_70 : decode cX6_addRope 70 = .ok (.invokevirtual 112, 3) := by decide +kernel
theorem dX6_addRope_73 : decode cX6_addRope 73 = .ok (.aload_n 0, 1) := by decide +kernel
theorem dX6_addRope_74 : decode cX6_addRope 74 = .ok (.dup, 1) := by decide +kernel
theorem dX6_addRope_75 : decode cX6_addRope 75 = .ok (.getfield 50, 3) := by decide +kernel
theorem dX6_addRope_78 : decode cX6_addRope 78 = .ok (.iconst 1, 1) := by decide +kernel
theorem dX6_addRope_79 : decode cX6_addRope 79 = .ok (.iadd, 1) := by decide +kernel
theorem dX6_addRope_80 : decode cX6_addRope 80 = .ok (.putfield 50, 3) := by decide +kernel
theorem dX6_addRope_83 : decode cX6_addRope 83 = .ok (.aload_n 0, 1) := by decide +kernel
theorem dX6_addRope_84 : decode cX6_addRope 84 = .ok (.getfield 50, 3) := by decide +kernel
theorem dX6_addRope_87 : decode cX6_addRope 87 = .ok (.iconst 1, 1) := by decide +kernel
theorem dX6_addRope_88 : decode cX6_addRope 88 = .ok (.isub, 1) := by decide +kernel
theorem dX6_addRope_89 : decode cX6_addRope 89 = .ok (.ireturn, 1) := by decide +kernel
theorem lv_RX6_112 : gLv RX6 112 RX5 yX5_beLaid cX5_beLaid 5 none 4 := gLv_of (wA_t (wt4 (List.mem_of_getElem? (i := 25) (by decide +kernel))) (by decide +kernel)) (wA_t (wt3 (List.mem_of_getElem? (i := 31) (by decide +kernel))) (by decide +kernel)) (wA_t (wt3 (List.mem_of_getElem? (i := 32) (by decide +kernel))) (by decide +kernel)) (wA_t (wt1 (List.mem_of_getElem? (i := 9) (by decide +kernel))) (by decide +kernel)) (wA_t (wt3 (List.mem_of_getElem? (i := 33) (by decide +kernel))) (by decide +kernel)) ⟨rfl, by decide +kernel, by decide +kernel, by decide +kernel⟩
def rm_X6_addRope : Room := { frames := 1, cells := 0, slots := 0, locals := 24 }
def f_X6_addRope (τ : gτ) (x0 : Nat) (x1 : Int32) (x2 : Int32) (x3 : Int32) (x4 : Int32) (G : gG) : Option (Int32 × gG) :=
  if (gi G 6 5 x0) < (8 : Int32) then ((f_X6_yarnAt τ x0 x1 G).bind fun a1 =>
  gchk (gkd τ a1 9) <|
  gLet (gsi G 9 1 a1 ((gi G 9 1 a1) - x4)) fun G2 =>
  (f_X6_yarnAt τ x0 x2 G2).bind fun a3 =>
  gchk (gkd τ a3 9) <|
  gLet (gsi G2 9 1 a3 ((gi G2 9 1 a3) - x4)) fun G4 =>
  (f_X6_yarnAt τ x0 x3 G4).bind fun a5 =>
  gchk (gkd τ a5 9) <|
  gLet (gsi G4 9 1 a5 ((gi G4 9 1 a5) - x4)) fun G6 =>
  (gr G6 6 1 x0).bind fun a7 =>
  gchk (gIn (gi G6 6 5 x0) (gn τ a7)) <| (gq G6 a7 (Int32.toNatClampNeg (gi G6 6 5 x0))).bind fun a8 =>
  (f_X5_beLaid a8 x1 x2 x3 x4 G6).bind fun G9 =>
  gLet (gsi G9 6 5 x0 ((gi G9 6 5 x0) + (1 : Int32))) fun G10 =>
  some ((gi G10 6 5 x0) - (1 : Int32), G10))
  else (some ((-1), G))
set_option maxHeartbeats 4000000 in
set_option maxRecDepth 100000 in
theorem c_X6_addRope (l : Launch) (X : gX) (τ : gτ) (x0 : Nat) (x1 : Int32) (x2 : Int32) (x3 : Int32) (x4 : Int32) (G : gG) (h0 : gK τ x0 6) {r : Int32} {G' : gG} (h : f_X6_addRope τ x0 x1 x2 x3 x4 G = some (r, G')) : gM l X τ yX6_addRope cX6_addRope 5 (some .int) rm_X6_addRope [.ref x0, .int x1, .int x2, .int x3, .int x4] G (some (.int r)) G' := by
  refine g_body (by decide +kernel) (Nat.le_of_ble_eq_true rfl) ?_
  intro p e s m args below meth c ls fx hr hw hl
  have fx : gFx X p s m args meth c cX6_addRope 5 RX6 := fx
  have hl : lv_has ls 5 [(0, .ref x0), (1, .int x1), (2, .int x2), (3, .int x3), (4, .int x4)] := hl
  have hok : gOk (f_X6_addRope τ x0 x1 x2 x3 x4 G) (fun q => q = (r, G')) := ⟨_, h, rfl⟩
  unfold f_X6_addRope at hok
  show W p l e rm_X6_addRope s m args below meth c s.heap [] 0 0 (MQ below (gQ X τ (some (.int r)) G') args s 0 0 (gFree X)) _
  refine lv_aload_n fx.1 fx.2.1 dX6_addRope_0 rfl (lv_at hl 0 rfl) ?_
  refine g_geti fx hw h0 lf_RX6_50 rfl dX6_addRope_1 ?_
  refine lv_bipush (v := 8) fx.1 fx.2.1 dX6_addRope_4 (by decide) ?_
  refine g_icmp_lt (tgt := 11) fx dX6_addRope_6 (by decide) hok (fun hok => ?_) (fun hok => ?_)
  · refine lv_aload_n fx.1 fx.2.1 dX6_addRope_11 rfl (lv_at hl 0 rfl) ?_
    refine lv_iload_n fx.1 fx.2.1 dX6_addRope_12 rfl (lv_at hl 1 rfl) ?_
    obtain ⟨a1, hf, hok⟩ := gOk_bind hok
    refine g_callV0 (κ := 6) fx hw (c_X6_yarnAt l X τ x0 x1 G h0 hf) lv_RX6_98 ⟨rfl, rfl⟩ rfl rfl h0 rfl hl.1 rfl ⟨Nat.le_of_ble_eq_true rfl, Nat.le_of_ble_eq_true rfl⟩ (Nat.le_of_ble_eq_true rfl) ⟨Nat.le_of_ble_eq_true rfl, Nat.le_of_ble_eq_true rfl⟩ dX6_addRope_13 (fun H locs hw => ?_)
    obtain ⟨h_a1, hok⟩ := gOk_chk hok
    have h_a1 : gK τ a1 9 := gkd_K h_a1
    refine lv_dup fx.1 fx.2.1 dX6_addRope_16 rfl ?_
    refine g_geti fx hw h_a1 lf_RX6_89 rfl dX6_addRope_17 ?_
    refine lv_iload fx.1 fx.2.1 dX6_addRope_20 (lv_at hl 4 rfl) ?_
    refine lv_isub fx.1 fx.2.1 dX6_addRope_22 ?_
    refine g_puti fx hw h_a1 lp_RX6_89 rfl rfl dX6_addRope_23 hok (fun G2 H locs hw hok => ?_)
    refine lv_aload_n fx.1 fx.2.1 dX6_addRope_26 rfl (lv_at hl 0 rfl) ?_
    refine lv_iload_n fx.1 fx.2.1 dX6_addRope_27 rfl (lv_at hl 2 rfl) ?_
    obtain ⟨a3, hf, hok⟩ := gOk_bind hok
    refine g_callV0 (κ := 6) fx hw (c_X6_yarnAt l X τ x0 x2 G2 h0 hf) lv_RX6_98 ⟨rfl, rfl⟩ rfl rfl h0 rfl hl.1 rfl ⟨Nat.le_of_ble_eq_true rfl, Nat.le_of_ble_eq_true rfl⟩ (Nat.le_of_ble_eq_true rfl) ⟨Nat.le_of_ble_eq_true rfl, Nat.le_of_ble_eq_true rfl⟩ dX6_addRope_28 (fun H locs hw => ?_)
    obtain ⟨h_a3, hok⟩ := gOk_chk hok
    have h_a3 : gK τ a3 9 := gkd_K h_a3
    refine lv_dup fx.1 fx.2.1 dX6_addRope_31 rfl ?_
    refine g_geti fx hw h_a3 lf_RX6_89 rfl dX6_addRope_32 ?_
    refine lv_iload fx.1 fx.2.1 dX6_addRope_35 (lv_at hl 4 rfl) ?_
    refine lv_isub fx.1 fx.2.1 dX6_addRope_37 ?_
    refine g_puti fx hw h_a3 lp_RX6_89 rfl rfl dX6_addRope_38 hok (fun G4 H locs hw hok => ?_)
    refine lv_aload_n fx.1 fx.2.1 dX6_addRope_41 rfl (lv_at hl 0 rfl) ?_
    refine lv_iload_n fx.1 fx.2.1 dX6_addRope_42 rfl (lv_at hl 3 rfl) ?_
    obtain ⟨a5, hf, hok⟩ := gOk_bind hok
    refine g_callV0 (κ := 6) fx hw (c_X6_yarnAt l X τ x0 x3 G4 h0 hf) lv_RX6_98 ⟨rfl, rfl⟩ rfl rfl h0 rfl hl.1 rfl ⟨Nat.le_of_ble_eq_true rfl, Nat.le_of_ble_eq_true rfl⟩ (Nat.le_of_ble_eq_true rfl) ⟨Nat.le_of_ble_eq_true rfl, Nat.le_of_ble_eq_true rfl⟩ dX6_addRope_43 (fun H locs hw => ?_)
    obtain ⟨h_a5, hok⟩ := gOk_chk hok
    have h_a5 : gK τ a5 9 := gkd_K h_a5
    refine lv_dup fx.1 fx.2.1 dX6_addRope_46 rfl ?_
    refine g_geti fx hw h_a5 lf_RX6_89 rfl dX6_addRope_47 ?_
    refine lv_iload fx.1 fx.2.1 dX6_addRope_50 (lv_at hl 4 rfl) ?_
    refine lv_isub fx.1 fx.2.1 dX6_addRope_52 ?_
    refine g_puti fx hw h_a5 lp_RX6_89 rfl rfl dX6_addRope_53 hok (fun G6 H locs hw hok => ?_)
    refine lv_aload_n fx.1 fx.2.1 dX6_addRope_56 rfl (lv_at hl 0 rfl) ?_
    refine g_getr fx hw h0 lf_RX6_19 rfl dX6_addRope_57 hok (fun a7 h_a7 hok => ?_)
    refine lv_aload_n fx.1 fx.2.1 dX6_addRope_60 rfl (lv_at hl 0 rfl) ?_
    refine g_geti fx hw h0 lf_RX6_50 rfl dX6_addRope_61 ?_
    refine g_aald fx hw 15 3 h_a7 (by decide) (by decide) rfl (κ' := 5) rfl dX6_addRope_64 hok (fun a8 h_a8 hok => ?_)
    refine lv_iload_n fx.1 fx.2.1 dX6_addRope_65 rfl (lv_at hl 1 rfl) ?_
    refine lv_iload_n fx.1 fx.2.1 dX6_addRope_66 rfl (lv_at hl 2 rfl) ?_
    refine lv_iload_n fx.1 fx.2.1 dX6_addRope_67 rfl (lv_at hl 3 rfl) ?_
    refine lv_iload fx.1 fx.2.1 dX6_addRope_68 (lv_at hl 4 rfl) ?_
    obtain ⟨G9, hf, hok⟩ := gOk_bind hok
    refine g_callV0 (κ := 5) fx hw (c_X5_beLaid l X τ a8 x1 x2 x3 x4 G6 h_a8 hf) lv_RX6_112 ⟨rfl, rfl⟩ rfl rfl h_a8 rfl hl.1 rfl ⟨Nat.le_of_ble_eq_true rfl, Nat.le_of_ble_eq_true rfl⟩ (Nat.le_of_ble_eq_true rfl) ⟨Nat.le_of_ble_eq_true rfl, Nat.le_of_ble_eq_true rfl⟩ dX6_addRope_70 (fun H locs hw => ?_)
    refine lv_aload_n fx.1 fx.2.1 dX6_addRope_73 rfl (lv_at hl 0 rfl) ?_
    refine lv_dup fx.1 fx.2.1 dX6_addRope_74 rfl ?_
    refine g_geti fx hw h0 lf_RX6_50 rfl dX6_addRope_75 ?_
    refine lv_iconst (v := 1) fx.1 fx.2.1 dX6_addRope_78 (by decide) ?_
    refine lv_iadd fx.1 fx.2.1 dX6_addRope_79 ?_
    refine g_puti fx hw h0 lp_RX6_50 rfl rfl dX6_addRope_80 hok (fun G10 H locs hw hok => ?_)
    refine lv_aload_n fx.1 fx.2.1 dX6_addRope_83 rfl (lv_at hl 0 rfl) ?_
    refine g_geti fx hw h0 lf_RX6_50 rfl dX6_addRope_84 ?_
    refine lv_iconst (v := 1) fx.1 fx.2.1 dX6_addRope_87 (by decide) ?_
    refine lv_isub fx.1 fx.2.1 dX6_addRope_88 ?_
    cases gOk_some hok
    exact g_iret fx hw hr dX6_addRope_89
  · refine lv_iconst (v := (-1)) fx.1 fx.2.1 dX6_addRope_9 (by decide) ?_
    cases gOk_some hok
    exact g_iret fx hw hr dX6_addRope_10
theorem dX6_addPiece_0 : decode cX6_addPiece 0 = .ok (.aload_n 0, 1) := by decide +kernel
theorem dX6_addPiece_1 : decode cX6_addPiece 1 = .ok (.getfield 50, 3) := by decide +kernel
theorem dX6_addPiece_4 : decode cX6_addPiece 4 = .ok (.bipush 8, 2) := by decide +kernel
theorem dX6_addPiece_6 : decode cX6_addPiece 6 = .ok (.if_icmp .lt 5, 3) := by decide +kernel
theorem dX6_addPiece_9 : decode cX6_addPiece 9 = .ok (.iconst (-1), 1) := by decide +kernel
theorem dX6_addPiece_10 : decode cX6_addPiece 10 = .ok (.ireturn, 1) := by decide +kernel
theorem dX6_addPiece_11 : decode cX6_addPiece 11 = .ok (.aload_n 0, 1) := by decide +kernel
theorem dX6_addPiece_12 : decode cX6_addPiece 12 = .ok (.getfield 19, 3) := by decide +kernel
theorem dX6_addPiece_15 : decode cX6_addPiece 15 = .ok (.aload_n 0, 1) := by decide +kernel
theorem dX6_addPiece_16 : decode cX6_addPiece 16 = .ok (.getfield 50, 3) := by decide +kernel
theorem dX6_addPiece_19 : decode cX6_addPiece 19 = .ok (.aaload, 1) := by decide +kernel
theorem dX6_addPiece_20 : decode cX6_addPiece 20 = .ok (.astore_n 3, 1) := by decide +kernel
theorem dX6_addPiece_21 : decode cX6_addPiece 21 = .ok (.aload_n 3, 1) := by decide +kernel
theorem dX6_addPiece_22 : decode cX6_addPiece 22 = .ok (.aload_n 1, 1) := by decide +kernel
theorem dX6_addPiece_23 : decode cX6_addPiece 23 = .ok (.invokevirtual 53, 3) := by decide +kernel
theorem dX6_addPiece_26 : decode cX6_addPiece 26 = .ok (.aload_n 3, 1) := by decide +kernel
theorem dX6_addPiece_27 : decode cX6_addPiece 27 = .ok (.iload_n 2, 1) := by decide +kernel
theorem dX6_addPiece_28 : decode cX6_addPiece 28 = .ok (.putfield 116, 3) := by decide +kernel
theorem dX6_addPiece_31 : decode cX6_addPiece 31 = .ok (.aload_n 3, 1) := by decide +kernel
theorem dX6_addPiece_32 : decode cX6_addPiece 32 = .ok (.iconst 0, 1) := by decide +kernel
theorem dX6_addPiece_33 : decode cX6_addPiece 33 = .ok (.putfield 119, 3) := by decide +kernel
theorem dX6_addPiece_36 : decode cX6_addPiece 36 = .ok (.aload_n 3, 1) := by decide +kernel
theorem dX6_addPiece_37 : decode cX6_addPiece 37 = .ok (.iconst 0, 1) := by decide +kernel
theorem dX6_addPiece_38 : decode cX6_addPiece 38 = .ok (.putfield 123, 3) := by decide +kernel
theorem dX6_addPiece_41 : decode cX6_addPiece 41 = .ok (.aload_n 1, 1) := by decide +kernel
theorem dX6_addPiece_42 : decode cX6_addPiece 42 = .ok (.dup, 1) := by decide +kernel
theorem dX6_addPiece_43 : decode cX6_addPiece 43 = .ok (.getfield 116, 3) := by decide +kernel
theorem dX6_addPiece_46 : decode cX6_addPiece 46 = .ok (.iload_n 2, 1) := by decide +kernel
theorem dX6_addPiece_47 : decode cX6_addPiece 47 = .ok (.isub, 1) := by decide +kernel
theorem dX6_addPiece_48 : decode cX6_addPiece 48 = .ok (.putfield 116, 3) := by decide +kernel
theorem dX6_addPiece_51 : decode cX6_addPiece 51 = .ok (.aload_n 0, 1) := by decide +kernel
theorem dX6_addPiece_52 : decode cX6_addPiece 52 = .ok (.dup, 1) := by decide +kernel
theorem dX6_addPiece_53 : decode cX6_addPiece 53 = .ok (.getfield 50, 3) := by decide +kernel
theorem dX6_addPiece_56 : decode cX6_addPiece 56 = .ok (.iconst 1, 1) := by decide +kernel
theorem dX6_addPiece_57 : decode cX6_addPiece 57 = .ok (.iadd, 1) := by decide +kernel
theorem dX6_addPiece_58 : decode cX6_addPiece 58 = .ok (.putfield 50, 3) := by decide +kernel
theorem dX6_addPiece_61 : decode cX6_addPiece 61 = .ok (.aload_n 0, 1) := by decide +kernel
theorem dX6_addPiece_62 : decode cX6_addPiece 62 = .ok (.getfield 50, 3) := by decide +kernel
theorem dX6_addPiece_65 : decode cX6_addPiece 65 = .ok (.iconst 1, 1) := by decide +kernel
theorem dX6_addPiece_66 : decode cX6_addPiece 66 = .ok (.isub, 1) := by decide +kernel
theorem dX6_addPiece_67 : decode cX6_addPiece 67 = .ok (.ireturn, 1) := by decide +kernel
theorem lp_RX6_116 : gLp RX6 116 5 3 := ⟨(RX5, TX5, 10), rfl, by decide, wA_t (wt1 (List.mem_of_getElem? (i := 177) (by decide +kernel))) (by decide +kernel), rfl, rfl⟩
theorem lp_RX6_119 : gLp RX6 119 5 8 := ⟨(RX5, TX5, 10), rfl, by decide, wA_t (wt1 (List.mem_of_getElem? (i := 200) (by decide +kernel))) (by decide +kernel), rfl, rfl⟩
theorem lp_RX6_123 : gLp RX6 123 5 7 := ⟨(RX5, TX5, 10), rfl, by decide, wA_t (wt1 (List.mem_of_getElem? (i := 195) (by decide +kernel))) (by decide +kernel), rfl, rfl⟩
theorem lf_RX6_116 : gLf RX6 116 5 3 := ⟨(RX5, TX5, 10), rfl, by decide, wA_t (wt1 (List.mem_of_getElem? (i := 177) (by decide +kernel))) (by decide +kernel), rfl⟩
def rm_X6_addPiece : Room := { frames := 1, cells := 0, slots := 0, locals := 21 }
def f_X6_addPiece (τ : gτ) (x0 : Nat) (x1 : Nat) (x2 : Int32) (G : gG) : Option (Int32 × gG) :=
  if (gi G 6 5 x0) < (8 : Int32) then ((gr G 6 1 x0).bind fun a1 =>
  gchk (gIn (gi G 6 5 x0) (gn τ a1)) <| (gq G a1 (Int32.toNatClampNeg (gi G 6 5 x0))).bind fun a2 =>
  (f_X5_become a2 x1 G).bind fun G3 =>
  gLet (gsi G3 5 3 a2 x2) fun G4 =>
  gLet (gsi G4 5 8 a2 (0 : Int32)) fun G5 =>
  gLet (gsi G5 5 7 a2 (0 : Int32)) fun G6 =>
  gLet (gsi G6 5 3 x1 ((gi G6 5 3 x1) - x2)) fun G7 =>
  gLet (gsi G7 6 5 x0 ((gi G7 6 5 x0) + (1 : Int32))) fun G8 =>
  some ((gi G8 6 5 x0) - (1 : Int32), G8))
  else (some ((-1), G))
set_option maxHeartbeats 4000000 in
set_option maxRecDepth 100000 in
theorem c_X6_addPiece (l : Launch) (X : gX) (τ : gτ) (x0 : Nat) (x1 : Nat) (x2 : Int32) (G : gG) (h0 : gK τ x0 6) (h1 : gK τ x1 5) {r : Int32} {G' : gG} (h : f_X6_addPiece τ x0 x1 x2 G = some (r, G')) : gM l X τ yX6_addPiece cX6_addPiece 4 (some .int) rm_X6_addPiece [.ref x0, .ref x1, .int x2] G (some (.int r)) G' := by
  refine g_body (by decide +kernel) (Nat.le_of_ble_eq_true rfl) ?_
  intro p e s m args below meth c ls fx hr hw hl
  have fx : gFx X p s m args meth c cX6_addPiece 4 RX6 := fx
  have hl : lv_has ls 4 [(0, .ref x0), (1, .ref x1), (2, .int x2)] := hl
  have hok : gOk (f_X6_addPiece τ x0 x1 x2 G) (fun q => q = (r, G')) := ⟨_, h, rfl⟩
  unfold f_X6_addPiece at hok
  show W p l e rm_X6_addPiece s m args below meth c s.heap [] 0 0 (MQ below (gQ X τ (some (.int r)) G') args s 0 0 (gFree X)) _
  refine lv_aload_n fx.1 fx.2.1 dX6_addPiece_0 rfl (lv_at hl 0 rfl) ?_
  refine g_geti fx hw h0 lf_RX6_50 rfl dX6_addPiece_1 ?_
  refine lv_bipush (v := 8) fx.1 fx.2.1 dX6_addPiece_4 (by decide) ?_
  refine g_icmp_lt (tgt := 11) fx dX6_addPiece_6 (by decide) hok (fun hok => ?_) (fun hok => ?_)
  · refine lv_aload_n fx.1 fx.2.1 dX6_addPiece_11 rfl (lv_at hl 0 rfl) ?_
    refine g_getr fx hw h0 lf_RX6_19 rfl dX6_addPiece_12 hok (fun a1 h_a1 hok => ?_)
    refine lv_aload_n fx.1 fx.2.1 dX6_addPiece_15 rfl (lv_at hl 0 rfl) ?_
    refine g_geti fx hw h0 lf_RX6_50 rfl dX6_addPiece_16 ?_
    refine g_aald fx hw 15 3 h_a1 (by decide) (by decide) rfl (κ' := 5) rfl dX6_addPiece_19 hok (fun a2 h_a2 hok => ?_)
    refine lv_astore_n (lv' := [(3, .ref a2), (0, .ref x0), (1, .ref x1), (2, .int x2)]) fx.1 fx.2.1 dX6_addPiece_20 rfl hl (by decide) rfl (fun ls hl => ?_)
    refine lv_aload_n fx.1 fx.2.1 dX6_addPiece_21 rfl (lv_at hl 0 rfl) ?_
    refine lv_aload_n fx.1 fx.2.1 dX6_addPiece_22 rfl (lv_at hl 2 rfl) ?_
    obtain ⟨G3, hf, hok⟩ := gOk_bind hok
    refine g_callV0 (κ := 5) fx hw (c_X5_become l X τ a2 x1 G h_a2 h1 hf) lv_RX6_53 ⟨rfl, rfl⟩ rfl rfl h_a2 rfl hl.1 rfl ⟨Nat.le_of_ble_eq_true rfl, Nat.le_of_ble_eq_true rfl⟩ (Nat.le_of_ble_eq_true rfl) ⟨Nat.le_of_ble_eq_true rfl, Nat.le_of_ble_eq_true rfl⟩ dX6_addPiece_23 (fun H locs hw => ?_)
    refine lv_aload_n fx.1 fx.2.1 dX6_addPiece_26 rfl (lv_at hl 0 rfl) ?_
    refine lv_iload_n fx.1 fx.2.1 dX6_addPiece_27 rfl (lv_at hl 3 rfl) ?_
    refine g_puti fx hw h_a2 lp_RX6_116 rfl rfl dX6_addPiece_28 hok (fun G4 H locs hw hok => ?_)
    refine lv_aload_n fx.1 fx.2.1 dX6_addPiece_31 rfl (lv_at hl 0 rfl) ?_
    refine lv_iconst (v := 0) fx.1 fx.2.1 dX6_addPiece_32 (by decide) ?_
    refine g_putz fx hw h_a2 lp_RX6_119 rfl rfl (by decide) dX6_addPiece_33 hok (fun G5 H locs hw hok => ?_)
    refine lv_aload_n fx.1 fx.2.1 dX6_addPiece_36 rfl (lv_at hl 0 rfl) ?_
    refine lv_iconst (v := 0) fx.1 fx.2.1 dX6_addPiece_37 (by decide) ?_
    refine g_puti fx hw h_a2 lp_RX6_123 rfl rfl dX6_addPiece_38 hok (fun G6 H locs hw hok => ?_)
    refine lv_aload_n fx.1 fx.2.1 dX6_addPiece_41 rfl (lv_at hl 2 rfl) ?_
    refine lv_dup fx.1 fx.2.1 dX6_addPiece_42 rfl ?_
    refine g_geti fx hw h1 lf_RX6_116 rfl dX6_addPiece_43 ?_
    refine lv_iload_n fx.1 fx.2.1 dX6_addPiece_46 rfl (lv_at hl 3 rfl) ?_
    refine lv_isub fx.1 fx.2.1 dX6_addPiece_47 ?_
    refine g_puti fx hw h1 lp_RX6_116 rfl rfl dX6_addPiece_48 hok (fun G7 H locs hw hok => ?_)
    refine lv_aload_n fx.1 fx.2.1 dX6_addPiece_51 rfl (lv_at hl 1 rfl) ?_
    refine lv_dup fx.1 fx.2.1 dX6_addPiece_52 rfl ?_
    refine g_geti fx hw h0 lf_RX6_50 rfl dX6_addPiece_53 ?_
    refine lv_iconst (v := 1) fx.1 fx.2.1 dX6_addPiece_56 (by decide) ?_
    refine lv_iadd fx.1 fx.2.1 dX6_addPiece_57 ?_
    refine g_puti fx hw h0 lp_RX6_50 rfl rfl dX6_addPiece_58 hok (fun G8 H locs hw hok => ?_)
    refine lv_aload_n fx.1 fx.2.1 dX6_addPiece_61 rfl (lv_at hl 1 rfl) ?_
    refine g_geti fx hw h0 lf_RX6_50 rfl dX6_addPiece_62 ?_
    refine lv_iconst (v := 1) fx.1 fx.2.1 dX6_addPiece_65 (by decide) ?_
    refine lv_isub fx.1 fx.2.1 dX6_addPiece_66 ?_
    cases gOk_some hok
    exact g_iret fx hw hr dX6_addPiece_67
  · refine lv_iconst (v := (-1)) fx.1 fx.2.1 dX6_addPiece_9 (by decide) ?_
    cases gOk_some hok
    exact g_iret fx hw hr dX6_addPiece_10
