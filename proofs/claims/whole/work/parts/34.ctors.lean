theorem gc_getk {X : gX} {p : Program} {l : Launch} {e : Env} {R : Room} {s : State} {m : MethodId} {args : Array Value} {below : List Frame} {meth : Method} {c : Code} {H : Heap} {locs : List Loc} {cells slots : Nat} {Q : State → Prop} {cc : ByteArray} {nL : Nat} {own : String} {τ : gτ} {G : gG} {pc : Nat} {ls : Array Slot} {rest : List Value} (fx : gFx X p s m args meth c cc nL own) (hw : gHw X τ G H locs) {a κ k idx κ' b : Nat} (hT : gK τ a κ) (lf : gLf own idx κ k) (hf : gFr κ k = some κ') (hv : gr G κ k a = some b) (hdg : decode cc pc = .ok (.getfield idx, 3)) (kk : W p l e R s m args below meth c H locs cells slots Q (F0 m (pc + 3) ls (.ref b :: rest))) : W p l e R s m args below meth c H locs cells slots Q (F0 m pc ls (.ref a :: rest)) := by
  refine g_get0 fx hw hT lf hdg ?_
  unfold gV
  rw [hf, hv]
  exact kk
theorem dX9_init_0 : decode cX9_init 0 = .ok (.aload_n 0, 1) := by decide +kernel
theorem dX9_init_1 : decode cX9_init 1 = .ok (.invokespecial 1, 3) := by decide +kernel
theorem dX9_init_4 : decode cX9_init 4 = .ok (.return_, 1) := by decide +kernel
theorem lo_RX9_1 : Cond.methodLink RX9 1 Lib.objectInit ∈ wA := wA_t (wt1 (List.mem_of_getElem? (i := 132) (by decide +kernel))) (by decide +kernel)
theorem lo_inst : Cond.instanceMethod Lib.objectInit ∈ wA := wA_t (wt1 (List.mem_of_getElem? (i := 34) (by decide +kernel))) (by decide +kernel)
theorem lo_code : Cond.code Lib.objectInit ⟨#[0xb1]⟩ 1 none ∈ wA := wA_t (wt1 (List.mem_of_getElem? (i := 35) (by decide +kernel))) (by decide +kernel)
def rm_X9_init : Room := { frames := 1, cells := 0, slots := 0, locals := 20 }
def iT_X9_init (z : Nat) (τ : gτ) : gτ := τ
def iG_X9_init (z x0 : Nat)  (G : gG) : gG := G
set_option maxHeartbeats 4000000 in
set_option maxRecDepth 100000 in
theorem c_X9_init (l : Launch) (X : gX) (hS : gS0 l X) (x0 : Nat)  (τ : gτ) (G : gG) (z : Nat) (h0 : gK τ x0 9)  : gMC l X yX9_init cX9_init 1 rm_X9_init [.ref x0] τ G z (iT_X9_init z τ) (iG_X9_init z x0  G) (z) := by
  refine g_bodyC (by decide +kernel) (Nat.le_of_ble_eq_true rfl) ?_
  intro p e s m args below meth c ls fx hr hin hw hz hl
  have fx : gFx X p s m args meth c cX9_init 1 RX9 := fx
  have hl : lv_has ls 1 [(0, .ref x0)] := hl
  have hlt : x0 < z := by obtain ⟨n, hn⟩ := h0; have := hw.1.lt hn; omega
  have hne : ∀ k, x0 ≠ z + k := fun k => by omega
  have hne0 : x0 ≠ z := by omega
  show W p l e rm_X9_init s m args below meth c s.heap [] 0 0 (MQ below (gQC X (iT_X9_init z τ) (iG_X9_init z x0  G) (z)) args s 0 0 (gFree X)) _
  refine lv_aload_n fx.1 fx.2.1 dX9_init_0 rfl (lv_at hl 0 rfl) ?_
  refine W.objInit fx.1 fx.2.1 fx.2.2.2.1 (fx.2.2.2.2.1 _ lo_RX9_1) (fx.2.2.2.2.1 _ lo_inst) (fx.2.2.2.2.1 _ lo_code) rfl (hl.1.trans fx.2.2.1.symm) rfl dX9_init_1 (Nat.le_of_ble_eq_true rfl) (Nat.le_of_ble_eq_true rfl) ?_
  refine W.eq (g2 := F0 m 4 ls []) rfl ?_
  exact gc_vret fx hw hz hr dX9_init_4
theorem dX5_init_0 : decode cX5_init 0 = .ok (.aload_n 0, 1) := by decide +kernel
theorem dX5_init_1 : decode cX5_init 1 = .ok (.invokespecial 3, 3) := by decide +kernel
theorem dX5_init_4 : decode cX5_init 4 = .ok (.return_, 1) := by decide +kernel
theorem lo_RX5_3 : Cond.methodLink RX5 3 Lib.objectInit ∈ wA := wA_t (wt1 (List.mem_of_getElem? (i := 161) (by decide +kernel))) (by decide +kernel)
def rm_X5_init : Room := { frames := 1, cells := 0, slots := 0, locals := 20 }
def iT_X5_init (z : Nat) (τ : gτ) : gτ := τ
def iG_X5_init (z x0 : Nat)  (G : gG) : gG := G
set_option maxHeartbeats 4000000 in
set_option maxRecDepth 100000 in
theorem c_X5_init (l : Launch) (X : gX) (hS : gS0 l X) (x0 : Nat)  (τ : gτ) (G : gG) (z : Nat) (h0 : gK τ x0 5)  : gMC l X yX5_init cX5_init 1 rm_X5_init [.ref x0] τ G z (iT_X5_init z τ) (iG_X5_init z x0  G) (z) := by
  refine g_bodyC (by decide +kernel) (Nat.le_of_ble_eq_true rfl) ?_
  intro p e s m args below meth c ls fx hr hin hw hz hl
  have fx : gFx X p s m args meth c cX5_init 1 RX5 := fx
  have hl : lv_has ls 1 [(0, .ref x0)] := hl
  have hlt : x0 < z := by obtain ⟨n, hn⟩ := h0; have := hw.1.lt hn; omega
  have hne : ∀ k, x0 ≠ z + k := fun k => by omega
  have hne0 : x0 ≠ z := by omega
  show W p l e rm_X5_init s m args below meth c s.heap [] 0 0 (MQ below (gQC X (iT_X5_init z τ) (iG_X5_init z x0  G) (z)) args s 0 0 (gFree X)) _
  refine lv_aload_n fx.1 fx.2.1 dX5_init_0 rfl (lv_at hl 0 rfl) ?_
  refine W.objInit fx.1 fx.2.1 fx.2.2.2.1 (fx.2.2.2.2.1 _ lo_RX5_3) (fx.2.2.2.2.1 _ lo_inst) (fx.2.2.2.2.1 _ lo_code) rfl (hl.1.trans fx.2.2.1.symm) rfl dX5_init_1 (Nat.le_of_ble_eq_true rfl) (Nat.le_of_ble_eq_true rfl) ?_
  refine W.eq (g2 := F0 m 4 ls []) rfl ?_
  exact gc_vret fx hw hz hr dX5_init_4
theorem dX4_init_0 : decode cX4_init 0 = .ok (.aload_n 0, 1) := by decide +kernel
theorem dX4_init_1 : decode cX4_init 1 = .ok (.invokespecial 1, 3) := by decide +kernel
theorem dX4_init_4 : decode cX4_init 4 = .ok (.return_, 1) := by decide +kernel
theorem lo_RX4_1 : Cond.methodLink RX4 1 Lib.objectInit ∈ wA := wA_t (wt1 (List.mem_of_getElem? (i := 230) (by decide +kernel))) (by decide +kernel)
def rm_X4_init : Room := { frames := 1, cells := 0, slots := 0, locals := 20 }
def iT_X4_init (z : Nat) (τ : gτ) : gτ := τ
def iG_X4_init (z x0 : Nat)  (G : gG) : gG := G
set_option maxHeartbeats 4000000 in
set_option maxRecDepth 100000 in
theorem c_X4_init (l : Launch) (X : gX) (hS : gS0 l X) (x0 : Nat)  (τ : gτ) (G : gG) (z : Nat) (h0 : gK τ x0 4)  : gMC l X yX4_init cX4_init 1 rm_X4_init [.ref x0] τ G z (iT_X4_init z τ) (iG_X4_init z x0  G) (z) := by
  refine g_bodyC (by decide +kernel) (Nat.le_of_ble_eq_true rfl) ?_
  intro p e s m args below meth c ls fx hr hin hw hz hl
  have fx : gFx X p s m args meth c cX4_init 1 RX4 := fx
  have hl : lv_has ls 1 [(0, .ref x0)] := hl
  have hlt : x0 < z := by obtain ⟨n, hn⟩ := h0; have := hw.1.lt hn; omega
  have hne : ∀ k, x0 ≠ z + k := fun k => by omega
  have hne0 : x0 ≠ z := by omega
  show W p l e rm_X4_init s m args below meth c s.heap [] 0 0 (MQ below (gQC X (iT_X4_init z τ) (iG_X4_init z x0  G) (z)) args s 0 0 (gFree X)) _
  refine lv_aload_n fx.1 fx.2.1 dX4_init_0 rfl (lv_at hl 0 rfl) ?_
  refine W.objInit fx.1 fx.2.1 fx.2.2.2.1 (fx.2.2.2.2.1 _ lo_RX4_1) (fx.2.2.2.2.1 _ lo_inst) (fx.2.2.2.2.1 _ lo_code) rfl (hl.1.trans fx.2.2.1.symm) rfl dX4_init_1 (Nat.le_of_ble_eq_true rfl) (Nat.le_of_ble_eq_true rfl) ?_
  refine W.eq (g2 := F0 m 4 ls []) rfl ?_
  exact gc_vret fx hw hz hr dX4_init_4
theorem dX7_init_0 : decode cX7_init 0 = .ok (.aload_n 0, 1) := by decide +kernel
theorem dX7_init_1 : decode cX7_init 1 = .ok (.invokespecial 3, 3) := by decide +kernel
theorem dX7_init_4 : decode cX7_init 4 = .ok (.aload_n 0, 1) := by decide +kernel
theorem dX7_init_5 : decode cX7_init 5 = .ok (.sipush 400, 3) := by decide +kernel
theorem dX7_init_8 : decode cX7_init 8 = .ok (.newarray .int, 2) := by decide +kernel
theorem dX7_init_10 : decode cX7_init 10 = .ok (.putfield 9, 3) := by decide +kernel
theorem dX7_init_13 : decode cX7_init 13 = .ok (.aload_n 0, 1) := by decide +kernel
theorem dX7_init_14 : decode cX7_init 14 = .ok (.iconst (-1), 1) := by decide +kernel
theorem dX7_init_15 : decode cX7_init 15 = .ok (.putfield 15, 3) := by decide +kernel
theorem dX7_init_18 : decode cX7_init 18 = .ok (.return_, 1) := by decide +kernel
theorem lo_RX7_3 : Cond.methodLink RX7 3 Lib.objectInit ∈ wA := wA_t (wt1 (List.mem_of_getElem? (i := 41) (by decide +kernel))) (by decide +kernel)
theorem lac_int : Cond.arrayClass .int ∈ wA := wA_t (wt1 (List.mem_of_getElem? (i := 65) (by decide +kernel))) (by decide +kernel)
theorem lq_RX7_9 : gLq RX7 9 7 0 := ⟨(RX7, TX7, 6), rfl, by decide, wA_t (wt1 (List.mem_of_getElem? (i := 42) (by decide +kernel))) (by decide +kernel), rfl, rfl, rfl⟩
def rm_X7_init : Room := { frames := 1, cells := 1, slots := 400, locals := 20 }
def iT_X7_init (z : Nat) (τ : gτ) : gτ := (gnt τ z 13 400)
def iG_X7_init (z x0 : Nat)  (G : gG) : gG := (gsi (gsr (gnw G z) 7 0 x0 (some z)) 7 2 x0 (-1 : Int32))
set_option maxHeartbeats 4000000 in
set_option maxRecDepth 100000 in
theorem c_X7_init (l : Launch) (X : gX) (hS : gS0 l X) (x0 : Nat)  (τ : gτ) (G : gG) (z : Nat) (h0 : gK τ x0 7)  : gMC l X yX7_init cX7_init 1 rm_X7_init [.ref x0] τ G z (iT_X7_init z τ) (iG_X7_init z x0  G) (z + 1) := by
  refine g_bodyC (by decide +kernel) (Nat.le_of_ble_eq_true rfl) ?_
  intro p e s m args below meth c ls fx hr hin hw hz hl
  have fx : gFx X p s m args meth c cX7_init 1 RX7 := fx
  have hl : lv_has ls 1 [(0, .ref x0)] := hl
  have hlt : x0 < z := by obtain ⟨n, hn⟩ := h0; have := hw.1.lt hn; omega
  have hne : ∀ k, x0 ≠ z + k := fun k => by omega
  have hne0 : x0 ≠ z := by omega
  show W p l e rm_X7_init s m args below meth c s.heap [] 0 0 (MQ below (gQC X (iT_X7_init z τ) (iG_X7_init z x0  G) (z + 1)) args s 1 400 (gFree X)) _
  refine lv_aload_n fx.1 fx.2.1 dX7_init_0 rfl (lv_at hl 0 rfl) ?_
  refine W.objInit fx.1 fx.2.1 fx.2.2.2.1 (fx.2.2.2.2.1 _ lo_RX7_3) (fx.2.2.2.2.1 _ lo_inst) (fx.2.2.2.2.1 _ lo_code) rfl (hl.1.trans fx.2.2.1.symm) rfl dX7_init_1 (Nat.le_of_ble_eq_true rfl) (Nat.le_of_ble_eq_true rfl) ?_
  refine W.eq (g2 := F0 m 4 ls []) rfl ?_
  refine lv_aload_n fx.1 fx.2.1 dX7_init_4 rfl (lv_at hl 0 rfl) ?_
  refine lv_sipush (v := 400) fx.1 fx.2.1 dX7_init_5 (by decide) ?_
  refine gc_newI fx hw hz lac_int (N := 400) (by decide) (by decide) (by decide) ⟨Nat.le_of_ble_eq_true rfl, Nat.le_of_ble_eq_true rfl⟩ dX7_init_8 (fun H hle hw hz => ?_)
  have hz : H.size = z + 1 := hz
  have h0 := gK.up hle h0
  have hk0 : gK (gnt τ z 13 400) z 13 := gnt_new
  refine gc_putF fx hin hw hz h0 lq_RX7_9 rfl ⟨rfl, rfl⟩ hk0 dX7_init_10 (fun H locs hw hz => ?_)
  refine lv_aload_n fx.1 fx.2.1 dX7_init_13 rfl (lv_at hl 0 rfl) ?_
  refine lv_iconst (v := (-1)) fx.1 fx.2.1 dX7_init_14 (by decide) ?_
  refine gc_puti fx hw hz h0 lp_RX7_15 rfl rfl dX7_init_15 (fun H locs hw hz => ?_)
  exact gc_vret fx hw hz hr dX7_init_18
theorem dX0_init_0 : decode cX0_init 0 = .ok (.aload_n 0, 1) := by decide +kernel
theorem dX0_init_1 : decode cX0_init 1 = .ok (.invokespecial 3, 3) := by decide +kernel
theorem dX0_init_4 : decode cX0_init 4 = .ok (.aload_n 0, 1) := by decide +kernel
theorem dX0_init_5 : decode cX0_init 5 = .ok (.sipush 300, 3) := by decide +kernel
theorem dX0_init_8 : decode cX0_init 8 = .ok (.newarray .int, 2) := by decide +kernel
theorem dX0_init_10 : decode cX0_init 10 = .ok (.putfield 9, 3) := by decide +kernel
theorem dX0_init_13 : decode cX0_init 13 = .ok (.return_, 1) := by decide +kernel
theorem lo_RX0_3 : Cond.methodLink RX0 3 Lib.objectInit ∈ wA := wA_t (wt1 (List.mem_of_getElem? (i := 116) (by decide +kernel))) (by decide +kernel)
theorem lq_RX0_9 : gLq RX0 9 0 0 := ⟨(RX0, TX0, 3), rfl, by decide, wA_t (wt1 (List.mem_of_getElem? (i := 117) (by decide +kernel))) (by decide +kernel), rfl, rfl, rfl⟩
def rm_X0_init : Room := { frames := 1, cells := 1, slots := 300, locals := 20 }
def iT_X0_init (z : Nat) (τ : gτ) : gτ := (gnt τ z 13 300)
def iG_X0_init (z x0 : Nat)  (G : gG) : gG := (gsr (gnw G z) 0 0 x0 (some z))
set_option maxHeartbeats 4000000 in
set_option maxRecDepth 100000 in
theorem c_X0_init (l : Launch) (X : gX) (hS : gS0 l X) (x0 : Nat)  (τ : gτ) (G : gG) (z : Nat) (h0 : gK τ x0 0)  : gMC l X yX0_init cX0_init 1 rm_X0_init [.ref x0] τ G z (iT_X0_init z τ) (iG_X0_init z x0  G) (z + 1) := by
  refine g_bodyC (by decide +kernel) (Nat.le_of_ble_eq_true rfl) ?_
  intro p e s m args below meth c ls fx hr hin hw hz hl
  have fx : gFx X p s m args meth c cX0_init 1 RX0 := fx
  have hl : lv_has ls 1 [(0, .ref x0)] := hl
  have hlt : x0 < z := by obtain ⟨n, hn⟩ := h0; have := hw.1.lt hn; omega
  have hne : ∀ k, x0 ≠ z + k := fun k => by omega
  have hne0 : x0 ≠ z := by omega
  show W p l e rm_X0_init s m args below meth c s.heap [] 0 0 (MQ below (gQC X (iT_X0_init z τ) (iG_X0_init z x0  G) (z + 1)) args s 1 300 (gFree X)) _
  refine lv_aload_n fx.1 fx.2.1 dX0_init_0 rfl (lv_at hl 0 rfl) ?_
  refine W.objInit fx.1 fx.2.1 fx.2.2.2.1 (fx.2.2.2.2.1 _ lo_RX0_3) (fx.2.2.2.2.1 _ lo_inst) (fx.2.2.2.2.1 _ lo_code) rfl (hl.1.trans fx.2.2.1.symm) rfl dX0_init_1 (Nat.le_of_ble_eq_true rfl) (Nat.le_of_ble_eq_true rfl) ?_
  refine W.eq (g2 := F0 m 4 ls []) rfl ?_
  refine lv_aload_n fx.1 fx.2.1 dX0_init_4 rfl (lv_at hl 0 rfl) ?_
  refine lv_sipush (v := 300) fx.1 fx.2.1 dX0_init_5 (by decide) ?_
  refine gc_newI fx hw hz lac_int (N := 300) (by decide) (by decide) (by decide) ⟨Nat.le_of_ble_eq_true rfl, Nat.le_of_ble_eq_true rfl⟩ dX0_init_8 (fun H hle hw hz => ?_)
  have hz : H.size = z + 1 := hz
  have h0 := gK.up hle h0
  have hk0 : gK (gnt τ z 13 300) z 13 := gnt_new
  refine gc_putF fx hin hw hz h0 lq_RX0_9 rfl ⟨rfl, rfl⟩ hk0 dX0_init_10 (fun H locs hw hz => ?_)
  exact gc_vret fx hw hz hr dX0_init_13
theorem dX1_init_0 : decode cX1_init 0 = .ok (.aload_n 0, 1) := by decide +kernel
theorem dX1_init_1 : decode cX1_init 1 = .ok (.invokespecial 3, 3) := by decide +kernel
theorem dX1_init_4 : decode cX1_init 4 = .ok (.aload_n 0, 1) := by decide +kernel
theorem dX1_init_5 : decode cX1_init 5 = .ok (.bipush 12, 2) := by decide +kernel
theorem dX1_init_7 : decode cX1_init 7 = .ok (.newarray .int, 2) := by decide +kernel
theorem dX1_init_9 : decode cX1_init 9 = .ok (.putfield 9, 3) := by decide +kernel
theorem dX1_init_12 : decode cX1_init 12 = .ok (.aload_n 0, 1) := by decide +kernel
theorem dX1_init_13 : decode cX1_init 13 = .ok (.bipush 12, 2) := by decide +kernel
theorem dX1_init_15 : decode cX1_init 15 = .ok (.newarray .int, 2) := by decide +kernel
theorem dX1_init_17 : decode cX1_init 17 = .ok (.putfield 15, 3) := by decide +kernel
theorem dX1_init_20 : decode cX1_init 20 = .ok (.aload_n 0, 1) := by decide +kernel
theorem dX1_init_21 : decode cX1_init 21 = .ok (.bipush 12, 2) := by decide +kernel
theorem dX1_init_23 : decode cX1_init 23 = .ok (.newarray .int, 2) := by decide +kernel
theorem dX1_init_25 : decode cX1_init 25 = .ok (.putfield 18, 3) := by decide +kernel
theorem dX1_init_28 : decode cX1_init 28 = .ok (.aload_n 0, 1) := by decide +kernel
theorem dX1_init_29 : decode cX1_init 29 = .ok (.sipush 400, 3) := by decide +kernel
theorem dX1_init_32 : decode cX1_init 32 = .ok (.newarray .int, 2) := by decide +kernel
theorem dX1_init_34 : decode cX1_init 34 = .ok (.putfield 21, 3) := by decide +kernel
theorem dX1_init_37 : decode cX1_init 37 = .ok (.aload_n 0, 1) := by decide +kernel
theorem dX1_init_38 : decode cX1_init 38 = .ok (.bipush 11, 2) := by decide +kernel
theorem dX1_init_40 : decode cX1_init 40 = .ok (.newarray .int, 2) := by decide +kernel
theorem dX1_init_42 : decode cX1_init 42 = .ok (.putfield 24, 3) := by decide +kernel
theorem dX1_init_45 : decode cX1_init 45 = .ok (.aload_n 0, 1) := by decide +kernel
theorem dX1_init_46 : decode cX1_init 46 = .ok (.bipush 32, 2) := by decide +kernel
theorem dX1_init_48 : decode cX1_init 48 = .ok (.newarray .int, 2) := by decide +kernel
theorem dX1_init_50 : decode cX1_init 50 = .ok (.putfield 27, 3) := by decide +kernel
theorem dX1_init_53 : decode cX1_init 53 = .ok (.return_, 1) := by decide +kernel
theorem lo_RX1_3 : Cond.methodLink RX1 3 Lib.objectInit ∈ wA := wA_t (wt2 (List.mem_of_getElem? (i := 92) (by decide +kernel))) (by decide +kernel)
theorem lq_RX1_9 : gLq RX1 9 1 0 := ⟨(RX1, TX1, 9), rfl, by decide, wA_t (wt2 (List.mem_of_getElem? (i := 93) (by decide +kernel))) (by decide +kernel), rfl, rfl, rfl⟩
theorem lq_RX1_15 : gLq RX1 15 1 1 := ⟨(RX1, TX1, 9), rfl, by decide, wA_t (wt2 (List.mem_of_getElem? (i := 94) (by decide +kernel))) (by decide +kernel), rfl, rfl, rfl⟩
theorem lq_RX1_18 : gLq RX1 18 1 2 := ⟨(RX1, TX1, 9), rfl, by decide, wA_t (wt2 (List.mem_of_getElem? (i := 95) (by decide +kernel))) (by decide +kernel), rfl, rfl, rfl⟩
theorem lq_RX1_21 : gLq RX1 21 1 3 := ⟨(RX1, TX1, 9), rfl, by decide, wA_t (wt2 (List.mem_of_getElem? (i := 96) (by decide +kernel))) (by decide +kernel), rfl, rfl, rfl⟩
theorem lq_RX1_24 : gLq RX1 24 1 4 := ⟨(RX1, TX1, 9), rfl, by decide, wA_t (wt2 (List.mem_of_getElem? (i := 97) (by decide +kernel))) (by decide +kernel), rfl, rfl, rfl⟩
theorem lq_RX1_27 : gLq RX1 27 1 5 := ⟨(RX1, TX1, 9), rfl, by decide, wA_t (wt2 (List.mem_of_getElem? (i := 98) (by decide +kernel))) (by decide +kernel), rfl, rfl, rfl⟩
def rm_X1_init : Room := { frames := 1, cells := 6, slots := 479, locals := 20 }
def iT_X1_init (z : Nat) (τ : gτ) : gτ := (gnt (gnt (gnt (gnt (gnt (gnt τ z 13 12) (z + 1) 13 12) (z + 2) 13 12) (z + 3) 13 400) (z + 4) 13 11) (z + 5) 13 32)
def iG_X1_init (z x0 : Nat)  (G : gG) : gG := (gsr (gnw (gsr (gnw (gsr (gnw (gsr (gnw (gsr (gnw (gsr (gnw G z) 1 0 x0 (some z)) (z + 1)) 1 1 x0 (some (z + 1))) (z + 2)) 1 2 x0 (some (z + 2))) (z + 3)) 1 3 x0 (some (z + 3))) (z + 4)) 1 4 x0 (some (z + 4))) (z + 5)) 1 5 x0 (some (z + 5)))
set_option maxHeartbeats 4000000 in
set_option maxRecDepth 100000 in
theorem c_X1_init (l : Launch) (X : gX) (hS : gS0 l X) (x0 : Nat)  (τ : gτ) (G : gG) (z : Nat) (h0 : gK τ x0 1)  : gMC l X yX1_init cX1_init 1 rm_X1_init [.ref x0] τ G z (iT_X1_init z τ) (iG_X1_init z x0  G) (z + 6) := by
  refine g_bodyC (by decide +kernel) (Nat.le_of_ble_eq_true rfl) ?_
  intro p e s m args below meth c ls fx hr hin hw hz hl
  have fx : gFx X p s m args meth c cX1_init 1 RX1 := fx
  have hl : lv_has ls 1 [(0, .ref x0)] := hl
  have hlt : x0 < z := by obtain ⟨n, hn⟩ := h0; have := hw.1.lt hn; omega
  have hne : ∀ k, x0 ≠ z + k := fun k => by omega
  have hne0 : x0 ≠ z := by omega
  show W p l e rm_X1_init s m args below meth c s.heap [] 0 0 (MQ below (gQC X (iT_X1_init z τ) (iG_X1_init z x0  G) (z + 6)) args s 6 479 (gFree X)) _
  refine lv_aload_n fx.1 fx.2.1 dX1_init_0 rfl (lv_at hl 0 rfl) ?_
  refine W.objInit fx.1 fx.2.1 fx.2.2.2.1 (fx.2.2.2.2.1 _ lo_RX1_3) (fx.2.2.2.2.1 _ lo_inst) (fx.2.2.2.2.1 _ lo_code) rfl (hl.1.trans fx.2.2.1.symm) rfl dX1_init_1 (Nat.le_of_ble_eq_true rfl) (Nat.le_of_ble_eq_true rfl) ?_
  refine W.eq (g2 := F0 m 4 ls []) rfl ?_
  refine lv_aload_n fx.1 fx.2.1 dX1_init_4 rfl (lv_at hl 0 rfl) ?_
  refine lv_bipush (v := 12) fx.1 fx.2.1 dX1_init_5 (by decide) ?_
  refine gc_newI fx hw hz lac_int (N := 12) (by decide) (by decide) (by decide) ⟨Nat.le_of_ble_eq_true rfl, Nat.le_of_ble_eq_true rfl⟩ dX1_init_7 (fun H hle hw hz => ?_)
  have hz : H.size = z + 1 := hz
  have h0 := gK.up hle h0
  have hk0 : gK (gnt τ z 13 12) z 13 := gnt_new
  refine gc_putF fx hin hw hz h0 lq_RX1_9 rfl ⟨rfl, rfl⟩ hk0 dX1_init_9 (fun H locs hw hz => ?_)
  refine lv_aload_n fx.1 fx.2.1 dX1_init_12 rfl (lv_at hl 0 rfl) ?_
  refine lv_bipush (v := 12) fx.1 fx.2.1 dX1_init_13 (by decide) ?_
  refine gc_newI fx hw hz lac_int (N := 12) (by decide) (by decide) (by decide) ⟨Nat.le_of_ble_eq_true rfl, Nat.le_of_ble_eq_true rfl⟩ dX1_init_15 (fun H hle hw hz => ?_)
  have hz : H.size = z + 2 := hz
  have h0 := gK.up hle h0
  have hk0 := gK.up hle hk0
  have hk1 : gK (gnt (gnt τ z 13 12) (z + 1) 13 12) (z + 1) 13 := gnt_new
  refine gc_putF fx hin hw hz h0 lq_RX1_15 rfl ⟨rfl, rfl⟩ hk1 dX1_init_17 (fun H locs hw hz => ?_)
  refine lv_aload_n fx.1 fx.2.1 dX1_init_20 rfl (lv_at hl 0 rfl) ?_
  refine lv_bipush (v := 12) fx.1 fx.2.1 dX1_init_21 (by decide) ?_
  refine gc_newI fx hw hz lac_int (N := 12) (by decide) (by decide) (by decide) ⟨Nat.le_of_ble_eq_true rfl, Nat.le_of_ble_eq_true rfl⟩ dX1_init_23 (fun H hle hw hz => ?_)
  have hz : H.size = z + 3 := hz
  have h0 := gK.up hle h0
  have hk0 := gK.up hle hk0
  have hk1 := gK.up hle hk1
  have hk2 : gK (gnt (gnt (gnt τ z 13 12) (z + 1) 13 12) (z + 2) 13 12) (z + 2) 13 := gnt_new
  refine gc_putF fx hin hw hz h0 lq_RX1_18 rfl ⟨rfl, rfl⟩ hk2 dX1_init_25 (fun H locs hw hz => ?_)
  refine lv_aload_n fx.1 fx.2.1 dX1_init_28 rfl (lv_at hl 0 rfl) ?_
  refine lv_sipush (v := 400) fx.1 fx.2.1 dX1_init_29 (by decide) ?_
  refine gc_newI fx hw hz lac_int (N := 400) (by decide) (by decide) (by decide) ⟨Nat.le_of_ble_eq_true rfl, Nat.le_of_ble_eq_true rfl⟩ dX1_init_32 (fun H hle hw hz => ?_)
  have hz : H.size = z + 4 := hz
  have h0 := gK.up hle h0
  have hk0 := gK.up hle hk0
  have hk1 := gK.up hle hk1
  have hk2 := gK.up hle hk2
  have hk3 : gK (gnt (gnt (gnt (gnt τ z 13 12) (z + 1) 13 12) (z + 2) 13 12) (z + 3) 13 400) (z + 3) 13 := gnt_new
  refine gc_putF fx hin hw hz h0 lq_RX1_21 rfl ⟨rfl, rfl⟩ hk3 dX1_init_34 (fun H locs hw hz => ?_)
  refine lv_aload_n fx.1 fx.2.1 dX1_init_37 rfl (lv_at hl 0 rfl) ?_
  refine lv_bipush (v := 11) fx.1 fx.2.1 dX1_init_38 (by decide) ?_
  refine gc_newI fx hw hz lac_int (N := 11) (by decide) (by decide) (by decide) ⟨Nat.le_of_ble_eq_true rfl, Nat.le_of_ble_eq_true rfl⟩ dX1_init_40 (fun H hle hw hz => ?_)
  have hz : H.size = z + 5 := hz
  have h0 := gK.up hle h0
  have hk0 := gK.up hle hk0
  have hk1 := gK.up hle hk1
  have hk2 := gK.up hle hk2
  have hk3 := gK.up hle hk3
  have hk4 : gK (gnt (gnt (gnt (gnt (gnt τ z 13 12) (z + 1) 13 12) (z + 2) 13 12) (z + 3) 13 400) (z + 4) 13 11) (z + 4) 13 := gnt_new
  refine gc_putF fx hin hw hz h0 lq_RX1_24 rfl ⟨rfl, rfl⟩ hk4 dX1_init_42 (fun H locs hw hz => ?_)
  refine lv_aload_n fx.1 fx.2.1 dX1_init_45 rfl (lv_at hl 0 rfl) ?_
  refine lv_bipush (v := 32) fx.1 fx.2.1 dX1_init_46 (by decide) ?_
  refine gc_newI fx hw hz lac_int (N := 32) (by decide) (by decide) (by decide) ⟨Nat.le_of_ble_eq_true rfl, Nat.le_of_ble_eq_true rfl⟩ dX1_init_48 (fun H hle hw hz => ?_)
  have hz : H.size = z + 6 := hz
  have h0 := gK.up hle h0
  have hk0 := gK.up hle hk0
  have hk1 := gK.up hle hk1
  have hk2 := gK.up hle hk2
  have hk3 := gK.up hle hk3
  have hk4 := gK.up hle hk4
  have hk5 : gK (gnt (gnt (gnt (gnt (gnt (gnt τ z 13 12) (z + 1) 13 12) (z + 2) 13 12) (z + 3) 13 400) (z + 4) 13 11) (z + 5) 13 32) (z + 5) 13 := gnt_new
  refine gc_putF fx hin hw hz h0 lq_RX1_27 rfl ⟨rfl, rfl⟩ hk5 dX1_init_50 (fun H locs hw hz => ?_)
  exact gc_vret fx hw hz hr dX1_init_53
theorem dX2_init_0 : decode cX2_init 0 = .ok (.aload_n 0, 1) := by decide +kernel
theorem dX2_init_1 : decode cX2_init 1 = .ok (.invokespecial 3, 3) := by decide +kernel
theorem dX2_init_4 : decode cX2_init 4 = .ok (.aload_n 0, 1) := by decide +kernel
theorem dX2_init_5 : decode cX2_init 5 = .ok (.aload_n 1, 1) := by decide +kernel
theorem dX2_init_6 : decode cX2_init 6 = .ok (.putfield 9, 3) := by decide +kernel
theorem dX2_init_9 : decode cX2_init 9 = .ok (.return_, 1) := by decide +kernel
theorem lo_RX2_3 : Cond.methodLink RX2 3 Lib.objectInit ∈ wA := wA_t (wt1 (List.mem_of_getElem? (i := 84) (by decide +kernel))) (by decide +kernel)
theorem lq_RX2_9 : gLq RX2 9 2 0 := ⟨(RX2, TX2, 2), rfl, by decide, wA_t (wt1 (List.mem_of_getElem? (i := 85) (by decide +kernel))) (by decide +kernel), rfl, rfl, rfl⟩
def rm_X2_init : Room := { frames := 1, cells := 0, slots := 0, locals := 20 }
def iT_X2_init (z : Nat) (τ : gτ) : gτ := τ
def iG_X2_init (z x0 : Nat) (x1 : Nat) (G : gG) : gG := (gsr G 2 0 x0 (some x1))
set_option maxHeartbeats 4000000 in
set_option maxRecDepth 100000 in
theorem c_X2_init (l : Launch) (X : gX) (hS : gS0 l X) (x0 : Nat) (x1 : Nat) (τ : gτ) (G : gG) (z : Nat) (h0 : gK τ x0 2) (h1 : gK τ x1 7) : gMC l X yX2_init cX2_init 2 rm_X2_init [.ref x0, .ref x1] τ G z (iT_X2_init z τ) (iG_X2_init z x0 x1 G) (z) := by
  refine g_bodyC (by decide +kernel) (Nat.le_of_ble_eq_true rfl) ?_
  intro p e s m args below meth c ls fx hr hin hw hz hl
  have fx : gFx X p s m args meth c cX2_init 2 RX2 := fx
  have hl : lv_has ls 2 [(0, .ref x0), (1, .ref x1)] := hl
  have hlt : x0 < z := by obtain ⟨n, hn⟩ := h0; have := hw.1.lt hn; omega
  have hne : ∀ k, x0 ≠ z + k := fun k => by omega
  have hne0 : x0 ≠ z := by omega
  show W p l e rm_X2_init s m args below meth c s.heap [] 0 0 (MQ below (gQC X (iT_X2_init z τ) (iG_X2_init z x0 x1 G) (z)) args s 0 0 (gFree X)) _
  refine lv_aload_n fx.1 fx.2.1 dX2_init_0 rfl (lv_at hl 0 rfl) ?_
  refine W.objInit fx.1 fx.2.1 fx.2.2.2.1 (fx.2.2.2.2.1 _ lo_RX2_3) (fx.2.2.2.2.1 _ lo_inst) (fx.2.2.2.2.1 _ lo_code) rfl (hl.1.trans fx.2.2.1.symm) rfl dX2_init_1 (Nat.le_of_ble_eq_true rfl) (Nat.le_of_ble_eq_true rfl) ?_
  refine W.eq (g2 := F0 m 4 ls []) rfl ?_
  refine lv_aload_n fx.1 fx.2.1 dX2_init_4 rfl (lv_at hl 0 rfl) ?_
  refine lv_aload_n fx.1 fx.2.1 dX2_init_5 rfl (lv_at hl 1 rfl) ?_
  refine gc_putF fx hin hw hz h0 lq_RX2_9 rfl ⟨rfl, rfl⟩ h1 dX2_init_6 (fun H locs hw hz => ?_)
  exact gc_vret fx hw hz hr dX2_init_9
theorem dX8_init_0 : decode cX8_init 0 = .ok (.aload_n 0, 1) := by decide +kernel
theorem dX8_init_1 : decode cX8_init 1 = .ok (.invokespecial 3, 3) := by decide +kernel
theorem dX8_init_4 : decode cX8_init 4 = .ok (.aload_n 0, 1) := by decide +kernel
theorem dX8_init_5 : decode cX8_init 5 = .ok (.aload_n 1, 1) := by decide +kernel
theorem dX8_init_6 : decode cX8_init 6 = .ok (.putfield 9, 3) := by decide +kernel
theorem dX8_init_9 : decode cX8_init 9 = .ok (.return_, 1) := by decide +kernel
theorem lo_RX8_3 : Cond.methodLink RX8 3 Lib.objectInit ∈ wA := wA_t (wt1 (List.mem_of_getElem? (i := 71) (by decide +kernel))) (by decide +kernel)
theorem lq_RX8_9 : gLq RX8 9 8 0 := ⟨(RX8, TX8, 2), rfl, by decide, wA_t (wt1 (List.mem_of_getElem? (i := 72) (by decide +kernel))) (by decide +kernel), rfl, rfl, rfl⟩
def rm_X8_init : Room := { frames := 1, cells := 0, slots := 0, locals := 20 }
def iT_X8_init (z : Nat) (τ : gτ) : gτ := τ
def iG_X8_init (z x0 : Nat) (x1 : Nat) (G : gG) : gG := (gsr G 8 0 x0 (some x1))
set_option maxHeartbeats 4000000 in
set_option maxRecDepth 100000 in
theorem c_X8_init (l : Launch) (X : gX) (hS : gS0 l X) (x0 : Nat) (x1 : Nat) (τ : gτ) (G : gG) (z : Nat) (h0 : gK τ x0 8) (h1 : gK τ x1 7) : gMC l X yX8_init cX8_init 2 rm_X8_init [.ref x0, .ref x1] τ G z (iT_X8_init z τ) (iG_X8_init z x0 x1 G) (z) := by
  refine g_bodyC (by decide +kernel) (Nat.le_of_ble_eq_true rfl) ?_
  intro p e s m args below meth c ls fx hr hin hw hz hl
  have fx : gFx X p s m args meth c cX8_init 2 RX8 := fx
  have hl : lv_has ls 2 [(0, .ref x0), (1, .ref x1)] := hl
  have hlt : x0 < z := by obtain ⟨n, hn⟩ := h0; have := hw.1.lt hn; omega
  have hne : ∀ k, x0 ≠ z + k := fun k => by omega
  have hne0 : x0 ≠ z := by omega
  show W p l e rm_X8_init s m args below meth c s.heap [] 0 0 (MQ below (gQC X (iT_X8_init z τ) (iG_X8_init z x0 x1 G) (z)) args s 0 0 (gFree X)) _
  refine lv_aload_n fx.1 fx.2.1 dX8_init_0 rfl (lv_at hl 0 rfl) ?_
  refine W.objInit fx.1 fx.2.1 fx.2.2.2.1 (fx.2.2.2.2.1 _ lo_RX8_3) (fx.2.2.2.2.1 _ lo_inst) (fx.2.2.2.2.1 _ lo_code) rfl (hl.1.trans fx.2.2.1.symm) rfl dX8_init_1 (Nat.le_of_ble_eq_true rfl) (Nat.le_of_ble_eq_true rfl) ?_
  refine W.eq (g2 := F0 m 4 ls []) rfl ?_
  refine lv_aload_n fx.1 fx.2.1 dX8_init_4 rfl (lv_at hl 0 rfl) ?_
  refine lv_aload_n fx.1 fx.2.1 dX8_init_5 rfl (lv_at hl 1 rfl) ?_
  refine gc_putF fx hin hw hz h0 lq_RX8_9 rfl ⟨rfl, rfl⟩ h1 dX8_init_6 (fun H locs hw hz => ?_)
  exact gc_vret fx hw hz hr dX8_init_9
theorem dX11_init_0 : decode cX11_init 0 = .ok (.aload_n 0, 1) := by decide +kernel
theorem dX11_init_1 : decode cX11_init 1 = .ok (.invokespecial 7, 3) := by decide +kernel
theorem dX11_init_4 : decode cX11_init 4 = .ok (.aload_n 0, 1) := by decide +kernel
theorem dX11_init_5 : decode cX11_init 5 = .ok (.sipush 2165, 3) := by decide +kernel
theorem dX11_init_8 : decode cX11_init 8 = .ok (.newarray .int, 2) := by decide +kernel
theorem dX11_init_10 : decode cX11_init 10 = .ok (.putfield 13, 3) := by decide +kernel
theorem dX11_init_13 : decode cX11_init 13 = .ok (.aload_n 0, 1) := by decide +kernel
theorem dX11_init_14 : decode cX11_init 14 = .ok (.sipush 1316, 3) := by decide +kernel
theorem dX11_init_17 : decode cX11_init 17 = .ok (.newarray .int, 2) := by decide +kernel
theorem dX11_init_19 : decode cX11_init 19 = .ok (.putfield 17, 3) := by decide +kernel
theorem dX11_init_22 : decode cX11_init 22 = .ok (.aload_n 0, 1) := by decide +kernel
theorem dX11_init_23 : decode cX11_init 23 = .ok (.sipush 1316, 3) := by decide +kernel
theorem dX11_init_26 : decode cX11_init 26 = .ok (.newarray .int, 2) := by decide +kernel
theorem dX11_init_28 : decode cX11_init 28 = .ok (.putfield 20, 3) := by decide +kernel
theorem dX11_init_31 : decode cX11_init 31 = .ok (.aload_n 0, 1) := by decide +kernel
theorem dX11_init_32 : decode cX11_init 32 = .ok (.sipush 467, 3) := by decide +kernel
theorem dX11_init_35 : decode cX11_init 35 = .ok (.newarray .int, 2) := by decide +kernel
theorem dX11_init_37 : decode cX11_init 37 = .ok (.putfield 23, 3) := by decide +kernel
theorem dX11_init_40 : decode cX11_init 40 = .ok (.aload_n 0, 1) := by decide +kernel
theorem dX11_init_41 : decode cX11_init 41 = .ok (.sipush 5604, 3) := by decide +kernel
theorem dX11_init_44 : decode cX11_init 44 = .ok (.newarray .int, 2) := by decide +kernel
theorem dX11_init_46 : decode cX11_init 46 = .ok (.putfield 26, 3) := by decide +kernel
theorem dX11_init_49 : decode cX11_init 49 = .ok (.aload_n 0, 1) := by decide +kernel
theorem dX11_init_50 : decode cX11_init 50 = .ok (.sipush 400, 3) := by decide +kernel
theorem dX11_init_53 : decode cX11_init 53 = .ok (.newarray .byte, 2) := by decide +kernel
theorem dX11_init_55 : decode cX11_init 55 = .ok (.putfield 29, 3) := by decide +kernel
theorem dX11_init_58 : decode cX11_init 58 = .ok (.aload_n 0, 1) := by decide +kernel
theorem dX11_init_59 : decode cX11_init 59 = .ok (.iconst (-1), 1) := by decide +kernel
theorem dX11_init_60 : decode cX11_init 60 = .ok (.putfield 33, 3) := by decide +kernel
theorem dX11_init_63 : decode cX11_init 63 = .ok (.aload_n 0, 1) := by decide +kernel
theorem dX11_init_64 : decode cX11_init 64 = .ok (.iconst 5, 1) := by decide +kernel
theorem dX11_init_65 : decode cX11_init 65 = .ok (.newarray .int, 2) := by decide +kernel
theorem dX11_init_67 : decode cX11_init 67 = .ok (.putfield 36, 3) := by decide +kernel
theorem dX11_init_70 : decode cX11_init 70 = .ok (.aload_n 0, 1) := by decide +kernel
theorem dX11_init_71 : decode cX11_init 71 = .ok (.sipush 400, 3) := by decide +kernel
theorem dX11_init_74 : decode cX11_init 74 = .ok (.newarray .int, 2) := by decide +kernel
theorem dX11_init_76 : decode cX11_init 76 = .ok (.putfield 39, 3) := by decide +kernel
theorem dX11_init_79 : decode cX11_init 79 = .ok (.aload_n 0, 1) := by decide +kernel
theorem dX11_init_80 : decode cX11_init 80 = .ok (.sipush 256, 3) := by decide +kernel
theorem dX11_init_83 : decode cX11_init 83 = .ok (.newarray .int, 2) := by decide +kernel
theorem dX11_init_85 : decode cX11_init 85 = .ok (.putfield 42, 3) := by decide +kernel
theorem dX11_init_88 : decode cX11_init 88 = .ok (.aload_n 0, 1) := by decide +kernel
theorem dX11_init_89 : decode cX11_init 89 = .ok (.bipush 10, 2) := by decide +kernel
theorem dX11_init_91 : decode cX11_init 91 = .ok (.newarray .int, 2) := by decide +kernel
theorem dX11_init_93 : decode cX11_init 93 = .ok (.putfield 45, 3) := by decide +kernel
theorem dX11_init_96 : decode cX11_init 96 = .ok (.aload_n 0, 1) := by decide +kernel
theorem dX11_init_97 : decode cX11_init 97 = .ok (.getfield 13, 3) := by decide +kernel
theorem dX11_init_100 : decode cX11_init 100 = .ok (.bipush 12, 2) := by decide +kernel
theorem dX11_init_102 : decode cX11_init 102 = .ok (.iconst 1, 1) := by decide +kernel
theorem dX11_init_103 : decode cX11_init 103 = .ok (.iastore, 1) := by decide +kernel
theorem dX11_init_104 : decode cX11_init 104 = .ok (.return_, 1) := by decide +kernel
theorem lo_RX11_7 : Cond.methodLink RX11 7 Lib.objectInit ∈ wA := wA_t (wt6 (List.mem_of_getElem? (i := 212) (by decide +kernel))) (by decide +kernel)
theorem lq_RX11_13 : gLq RX11 13 11 1 := ⟨(RX11, TX11, 20), rfl, by decide, wA_t (wt6 (List.mem_of_getElem? (i := 214) (by decide +kernel))) (by decide +kernel), rfl, rfl, rfl⟩
theorem lq_RX11_17 : gLq RX11 17 11 2 := ⟨(RX11, TX11, 20), rfl, by decide, wA_t (wt6 (List.mem_of_getElem? (i := 215) (by decide +kernel))) (by decide +kernel), rfl, rfl, rfl⟩
theorem lq_RX11_20 : gLq RX11 20 11 3 := ⟨(RX11, TX11, 20), rfl, by decide, wA_t (wt6 (List.mem_of_getElem? (i := 216) (by decide +kernel))) (by decide +kernel), rfl, rfl, rfl⟩
theorem lq_RX11_23 : gLq RX11 23 11 4 := ⟨(RX11, TX11, 20), rfl, by decide, wA_t (wt6 (List.mem_of_getElem? (i := 217) (by decide +kernel))) (by decide +kernel), rfl, rfl, rfl⟩
theorem lq_RX11_26 : gLq RX11 26 11 5 := ⟨(RX11, TX11, 20), rfl, by decide, wA_t (wt6 (List.mem_of_getElem? (i := 218) (by decide +kernel))) (by decide +kernel), rfl, rfl, rfl⟩
theorem lac_byte : Cond.arrayClass .byte ∈ wA := wA_t (wt4 (List.mem_of_getElem? (i := 140) (by decide +kernel))) (by decide +kernel)
theorem lq_RX11_29 : gLq RX11 29 11 8 := ⟨(RX11, TX11, 20), rfl, by decide, wA_t (wt6 (List.mem_of_getElem? (i := 221) (by decide +kernel))) (by decide +kernel), rfl, rfl, rfl⟩
theorem lq_RX11_36 : gLq RX11 36 11 15 := ⟨(RX11, TX11, 20), rfl, by decide, wA_t (wt6 (List.mem_of_getElem? (i := 228) (by decide +kernel))) (by decide +kernel), rfl, rfl, rfl⟩
theorem lq_RX11_39 : gLq RX11 39 11 17 := ⟨(RX11, TX11, 20), rfl, by decide, wA_t (wt6 (List.mem_of_getElem? (i := 230) (by decide +kernel))) (by decide +kernel), rfl, rfl, rfl⟩
theorem lq_RX11_42 : gLq RX11 42 11 18 := ⟨(RX11, TX11, 20), rfl, by decide, wA_t (wt6 (List.mem_of_getElem? (i := 231) (by decide +kernel))) (by decide +kernel), rfl, rfl, rfl⟩
theorem lq_RX11_45 : gLq RX11 45 11 19 := ⟨(RX11, TX11, 20), rfl, by decide, wA_t (wt6 (List.mem_of_getElem? (i := 232) (by decide +kernel))) (by decide +kernel), rfl, rfl, rfl⟩
def rm_X11_init : Room := { frames := 1, cells := 10, slots := 11939, locals := 20 }
def iT_X11_init (z : Nat) (τ : gτ) : gτ := (gnt (gnt (gnt (gnt (gnt (gnt (gnt (gnt (gnt (gnt τ z 13 2165) (z + 1) 13 1316) (z + 2) 13 1316) (z + 3) 13 467) (z + 4) 13 5604) (z + 5) 12 400) (z + 6) 13 5) (z + 7) 13 400) (z + 8) 13 256) (z + 9) 13 10)
def iG_X11_init (z x0 : Nat)  (G : gG) : gG := (gse (gsr (gnw (gsr (gnw (gsr (gnw (gsr (gnw (gsi (gsr (gnw (gsr (gnw (gsr (gnw (gsr (gnw (gsr (gnw (gsr (gnw G z) 11 1 x0 (some z)) (z + 1)) 11 2 x0 (some (z + 1))) (z + 2)) 11 3 x0 (some (z + 2))) (z + 3)) 11 4 x0 (some (z + 3))) (z + 4)) 11 5 x0 (some (z + 4))) (z + 5)) 11 8 x0 (some (z + 5))) 11 14 x0 (-1 : Int32)) (z + 6)) 11 15 x0 (some (z + 6))) (z + 7)) 11 17 x0 (some (z + 7))) (z + 8)) 11 18 x0 (some (z + 8))) (z + 9)) 11 19 x0 (some (z + 9))) z (Int32.toNatClampNeg 12) 1)
set_option maxHeartbeats 4000000 in
set_option maxRecDepth 100000 in
theorem c_X11_init (l : Launch) (X : gX) (hS : gS0 l X) (x0 : Nat)  (τ : gτ) (G : gG) (z : Nat) (h0 : gK τ x0 11)  : gMC l X yX11_init cX11_init 1 rm_X11_init [.ref x0] τ G z (iT_X11_init z τ) (iG_X11_init z x0  G) (z + 10) := by
  refine g_bodyC (by decide +kernel) (Nat.le_of_ble_eq_true rfl) ?_
  intro p e s m args below meth c ls fx hr hin hw hz hl
  have fx : gFx X p s m args meth c cX11_init 1 RX11 := fx
  have hl : lv_has ls 1 [(0, .ref x0)] := hl
  have hlt : x0 < z := by obtain ⟨n, hn⟩ := h0; have := hw.1.lt hn; omega
  have hne : ∀ k, x0 ≠ z + k := fun k => by omega
  have hne0 : x0 ≠ z := by omega
  show W p l e rm_X11_init s m args below meth c s.heap [] 0 0 (MQ below (gQC X (iT_X11_init z τ) (iG_X11_init z x0  G) (z + 10)) args s 10 11939 (gFree X)) _
  refine lv_aload_n fx.1 fx.2.1 dX11_init_0 rfl (lv_at hl 0 rfl) ?_
  refine W.objInit fx.1 fx.2.1 fx.2.2.2.1 (fx.2.2.2.2.1 _ lo_RX11_7) (fx.2.2.2.2.1 _ lo_inst) (fx.2.2.2.2.1 _ lo_code) rfl (hl.1.trans fx.2.2.1.symm) rfl dX11_init_1 (Nat.le_of_ble_eq_true rfl) (Nat.le_of_ble_eq_true rfl) ?_
  refine W.eq (g2 := F0 m 4 ls []) rfl ?_
  refine lv_aload_n fx.1 fx.2.1 dX11_init_4 rfl (lv_at hl 0 rfl) ?_
  refine lv_sipush (v := 2165) fx.1 fx.2.1 dX11_init_5 (by decide) ?_
  refine gc_newI fx hw hz lac_int (N := 2165) (by decide) (by decide) (by decide) ⟨Nat.le_of_ble_eq_true rfl, Nat.le_of_ble_eq_true rfl⟩ dX11_init_8 (fun H hle hw hz => ?_)
  have hz : H.size = z + 1 := hz
  have h0 := gK.up hle h0
  have hk0 : gK (gnt τ z 13 2165) z 13 := gnt_new
  refine gc_putF fx hin hw hz h0 lq_RX11_13 rfl ⟨rfl, rfl⟩ hk0 dX11_init_10 (fun H locs hw hz => ?_)
  refine lv_aload_n fx.1 fx.2.1 dX11_init_13 rfl (lv_at hl 0 rfl) ?_
  refine lv_sipush (v := 1316) fx.1 fx.2.1 dX11_init_14 (by decide) ?_
  refine gc_newI fx hw hz lac_int (N := 1316) (by decide) (by decide) (by decide) ⟨Nat.le_of_ble_eq_true rfl, Nat.le_of_ble_eq_true rfl⟩ dX11_init_17 (fun H hle hw hz => ?_)
  have hz : H.size = z + 2 := hz
  have h0 := gK.up hle h0
  have hk0 := gK.up hle hk0
  have hk1 : gK (gnt (gnt τ z 13 2165) (z + 1) 13 1316) (z + 1) 13 := gnt_new
  refine gc_putF fx hin hw hz h0 lq_RX11_17 rfl ⟨rfl, rfl⟩ hk1 dX11_init_19 (fun H locs hw hz => ?_)
  refine lv_aload_n fx.1 fx.2.1 dX11_init_22 rfl (lv_at hl 0 rfl) ?_
  refine lv_sipush (v := 1316) fx.1 fx.2.1 dX11_init_23 (by decide) ?_
  refine gc_newI fx hw hz lac_int (N := 1316) (by decide) (by decide) (by decide) ⟨Nat.le_of_ble_eq_true rfl, Nat.le_of_ble_eq_true rfl⟩ dX11_init_26 (fun H hle hw hz => ?_)
  have hz : H.size = z + 3 := hz
  have h0 := gK.up hle h0
  have hk0 := gK.up hle hk0
  have hk1 := gK.up hle hk1
  have hk2 : gK (gnt (gnt (gnt τ z 13 2165) (z + 1) 13 1316) (z + 2) 13 1316) (z + 2) 13 := gnt_new
  refine gc_putF fx hin hw hz h0 lq_RX11_20 rfl ⟨rfl, rfl⟩ hk2 dX11_init_28 (fun H locs hw hz => ?_)
  refine lv_aload_n fx.1 fx.2.1 dX11_init_31 rfl (lv_at hl 0 rfl) ?_
  refine lv_sipush (v := 467) fx.1 fx.2.1 dX11_init_32 (by decide) ?_
  refine gc_newI fx hw hz lac_int (N := 467) (by decide) (by decide) (by decide) ⟨Nat.le_of_ble_eq_true rfl, Nat.le_of_ble_eq_true rfl⟩ dX11_init_35 (fun H hle hw hz => ?_)
  have hz : H.size = z + 4 := hz
  have h0 := gK.up hle h0
  have hk0 := gK.up hle hk0
  have hk1 := gK.up hle hk1
  have hk2 := gK.up hle hk2
  have hk3 : gK (gnt (gnt (gnt (gnt τ z 13 2165) (z + 1) 13 1316) (z + 2) 13 1316) (z + 3) 13 467) (z + 3) 13 := gnt_new
  refine gc_putF fx hin hw hz h0 lq_RX11_23 rfl ⟨rfl, rfl⟩ hk3 dX11_init_37 (fun H locs hw hz => ?_)
  refine lv_aload_n fx.1 fx.2.1 dX11_init_40 rfl (lv_at hl 0 rfl) ?_
  refine lv_sipush (v := 5604) fx.1 fx.2.1 dX11_init_41 (by decide) ?_
  refine gc_newI fx hw hz lac_int (N := 5604) (by decide) (by decide) (by decide) ⟨Nat.le_of_ble_eq_true rfl, Nat.le_of_ble_eq_true rfl⟩ dX11_init_44 (fun H hle hw hz => ?_)
  have hz : H.size = z + 5 := hz
  have h0 := gK.up hle h0
  have hk0 := gK.up hle hk0
  have hk1 := gK.up hle hk1
  have hk2 := gK.up hle hk2
  have hk3 := gK.up hle hk3
  have hk4 : gK (gnt (gnt (gnt (gnt (gnt τ z 13 2165) (z + 1) 13 1316) (z + 2) 13 1316) (z + 3) 13 467) (z + 4) 13 5604) (z + 4) 13 := gnt_new
  refine gc_putF fx hin hw hz h0 lq_RX11_26 rfl ⟨rfl, rfl⟩ hk4 dX11_init_46 (fun H locs hw hz => ?_)
  refine lv_aload_n fx.1 fx.2.1 dX11_init_49 rfl (lv_at hl 0 rfl) ?_
  refine lv_sipush (v := 400) fx.1 fx.2.1 dX11_init_50 (by decide) ?_
  refine gc_newB fx hw hz lac_byte (N := 400) (by decide) (by decide) (by decide) ⟨Nat.le_of_ble_eq_true rfl, Nat.le_of_ble_eq_true rfl⟩ dX11_init_53 (fun H hle hw hz => ?_)
  have hz : H.size = z + 6 := hz
  have h0 := gK.up hle h0
  have hk0 := gK.up hle hk0
  have hk1 := gK.up hle hk1
  have hk2 := gK.up hle hk2
  have hk3 := gK.up hle hk3
  have hk4 := gK.up hle hk4
  have hk5 : gK (gnt (gnt (gnt (gnt (gnt (gnt τ z 13 2165) (z + 1) 13 1316) (z + 2) 13 1316) (z + 3) 13 467) (z + 4) 13 5604) (z + 5) 12 400) (z + 5) 12 := gnt_new
  refine gc_putF fx hin hw hz h0 lq_RX11_29 rfl ⟨rfl, rfl⟩ hk5 dX11_init_55 (fun H locs hw hz => ?_)
  refine lv_aload_n fx.1 fx.2.1 dX11_init_58 rfl (lv_at hl 0 rfl) ?_
  refine lv_iconst (v := (-1)) fx.1 fx.2.1 dX11_init_59 (by decide) ?_
  refine gc_puti fx hw hz h0 lp_RX11_33 rfl rfl dX11_init_60 (fun H locs hw hz => ?_)
  refine lv_aload_n fx.1 fx.2.1 dX11_init_63 rfl (lv_at hl 0 rfl) ?_
  refine lv_iconst (v := 5) fx.1 fx.2.1 dX11_init_64 (by decide) ?_
  refine gc_newI fx hw hz lac_int (N := 5) (by decide) (by decide) (by decide) ⟨Nat.le_of_ble_eq_true rfl, Nat.le_of_ble_eq_true rfl⟩ dX11_init_65 (fun H hle hw hz => ?_)
  have hz : H.size = z + 7 := hz
  have h0 := gK.up hle h0
  have hk0 := gK.up hle hk0
  have hk1 := gK.up hle hk1
  have hk2 := gK.up hle hk2
  have hk3 := gK.up hle hk3
  have hk4 := gK.up hle hk4
  have hk5 := gK.up hle hk5
  have hk6 : gK (gnt (gnt (gnt (gnt (gnt (gnt (gnt τ z 13 2165) (z + 1) 13 1316) (z + 2) 13 1316) (z + 3) 13 467) (z + 4) 13 5604) (z + 5) 12 400) (z + 6) 13 5) (z + 6) 13 := gnt_new
  refine gc_putF fx hin hw hz h0 lq_RX11_36 rfl ⟨rfl, rfl⟩ hk6 dX11_init_67 (fun H locs hw hz => ?_)
  refine lv_aload_n fx.1 fx.2.1 dX11_init_70 rfl (lv_at hl 0 rfl) ?_
  refine lv_sipush (v := 400) fx.1 fx.2.1 dX11_init_71 (by decide) ?_
  refine gc_newI fx hw hz lac_int (N := 400) (by decide) (by decide) (by decide) ⟨Nat.le_of_ble_eq_true rfl, Nat.le_of_ble_eq_true rfl⟩ dX11_init_74 (fun H hle hw hz => ?_)
  have hz : H.size = z + 8 := hz
  have h0 := gK.up hle h0
  have hk0 := gK.up hle hk0
  have hk1 := gK.up hle hk1
  have hk2 := gK.up hle hk2
  have hk3 := gK.up hle hk3
  have hk4 := gK.up hle hk4
  have hk5 := gK.up hle hk5
  have hk6 := gK.up hle hk6
  have hk7 : gK (gnt (gnt (gnt (gnt (gnt (gnt (gnt (gnt τ z 13 2165) (z + 1) 13 1316) (z + 2) 13 1316) (z + 3) 13 467) (z + 4) 13 5604) (z + 5) 12 400) (z + 6) 13 5) (z + 7) 13 400) (z + 7) 13 := gnt_new
  refine gc_putF fx hin hw hz h0 lq_RX11_39 rfl ⟨rfl, rfl⟩ hk7 dX11_init_76 (fun H locs hw hz => ?_)
  refine lv_aload_n fx.1 fx.2.1 dX11_init_79 rfl (lv_at hl 0 rfl) ?_
  refine lv_sipush (v := 256) fx.1 fx.2.1 dX11_init_80 (by decide) ?_
  refine gc_newI fx hw hz lac_int (N := 256) (by decide) (by decide) (by decide) ⟨Nat.le_of_ble_eq_true rfl, Nat.le_of_ble_eq_true rfl⟩ dX11_init_83 (fun H hle hw hz => ?_)
  have hz : H.size = z + 9 := hz
  have h0 := gK.up hle h0
  have hk0 := gK.up hle hk0
  have hk1 := gK.up hle hk1
  have hk2 := gK.up hle hk2
  have hk3 := gK.up hle hk3
  have hk4 := gK.up hle hk4
  have hk5 := gK.up hle hk5
  have hk6 := gK.up hle hk6
  have hk7 := gK.up hle hk7
  have hk8 : gK (gnt (gnt (gnt (gnt (gnt (gnt (gnt (gnt (gnt τ z 13 2165) (z + 1) 13 1316) (z + 2) 13 1316) (z + 3) 13 467) (z + 4) 13 5604) (z + 5) 12 400) (z + 6) 13 5) (z + 7) 13 400) (z + 8) 13 256) (z + 8) 13 := gnt_new
  refine gc_putF fx hin hw hz h0 lq_RX11_42 rfl ⟨rfl, rfl⟩ hk8 dX11_init_85 (fun H locs hw hz => ?_)
  refine lv_aload_n fx.1 fx.2.1 dX11_init_88 rfl (lv_at hl 0 rfl) ?_
  refine lv_bipush (v := 10) fx.1 fx.2.1 dX11_init_89 (by decide) ?_
  refine gc_newI fx hw hz lac_int (N := 10) (by decide) (by decide) (by decide) ⟨Nat.le_of_ble_eq_true rfl, Nat.le_of_ble_eq_true rfl⟩ dX11_init_91 (fun H hle hw hz => ?_)
  have hz : H.size = z + 10 := hz
  have h0 := gK.up hle h0
  have hk0 := gK.up hle hk0
  have hk1 := gK.up hle hk1
  have hk2 := gK.up hle hk2
  have hk3 := gK.up hle hk3
  have hk4 := gK.up hle hk4
  have hk5 := gK.up hle hk5
  have hk6 := gK.up hle hk6
  have hk7 := gK.up hle hk7
  have hk8 := gK.up hle hk8
  have hk9 : gK (gnt (gnt (gnt (gnt (gnt (gnt (gnt (gnt (gnt (gnt τ z 13 2165) (z + 1) 13 1316) (z + 2) 13 1316) (z + 3) 13 467) (z + 4) 13 5604) (z + 5) 12 400) (z + 6) 13 5) (z + 7) 13 400) (z + 8) 13 256) (z + 9) 13 10) (z + 9) 13 := gnt_new
  refine gc_putF fx hin hw hz h0 lq_RX11_45 rfl ⟨rfl, rfl⟩ hk9 dX11_init_93 (fun H locs hw hz => ?_)
  refine lv_aload_n fx.1 fx.2.1 dX11_init_96 rfl (lv_at hl 0 rfl) ?_
  refine gc_getk fx hw h0 lf_RX11_13 rfl (b := z) (by simp only [gr]; simp [gr, gsr, gnw, gsi, gse, hne]) dX11_init_97 ?_
  refine lv_bipush (v := 12) fx.1 fx.2.1 dX11_init_100 (by decide) ?_
  refine lv_iconst (v := 1) fx.1 fx.2.1 dX11_init_102 (by decide) ?_
  refine gc_iast fx hw hz hk0 (by simp [gn, gnt]) dX11_init_103 (fun H locs hw hz => ?_)
  exact gc_vret fx hw hz hr dX11_init_104
