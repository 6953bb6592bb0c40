theorem lcn_RX6_9 : Cond.classLink RX6 9 RX9 ∈ wA := wA_t (wt1 (List.mem_of_getElem? (i := 105) (by decide +kernel))) (by decide +kernel)
theorem lao_RX6_9 : Cond.arrayOver (.object RX9) ∈ lw_tbl := List.mem_append_right _ (wt1 (List.mem_of_getElem? (i := 106) (by decide +kernel)))
theorem lcn_RX6_17 : Cond.classLink RX6 17 RX5 ∈ wA := wA_t (wt1 (List.mem_of_getElem? (i := 107) (by decide +kernel))) (by decide +kernel)
theorem lao_RX6_17 : Cond.arrayOver (.object RX5) ∈ lw_tbl := List.mem_append_right _ (wt1 (List.mem_of_getElem? (i := 108) (by decide +kernel)))
theorem lcn_RX6_23 : Cond.classLink RX6 23 RX4 ∈ wA := wA_t (wt1 (List.mem_of_getElem? (i := 109) (by decide +kernel))) (by decide +kernel)
theorem lao_RX6_23 : Cond.arrayOver (.object RX4) ∈ lw_tbl := List.mem_append_right _ (wt1 (List.mem_of_getElem? (i := 110) (by decide +kernel)))
theorem lq_RX6_11 : gLq RX6 11 6 0 := ⟨(RX6, TX6, 15), rfl, by decide, wA_t (wt2 (List.mem_of_getElem? (i := 7) (by decide +kernel))) (by decide +kernel), rfl, rfl, rfl⟩
theorem lq_RX6_19 : gLq RX6 19 6 1 := ⟨(RX6, TX6, 15), rfl, by decide, wA_t (wt2 (List.mem_of_getElem? (i := 9) (by decide +kernel))) (by decide +kernel), rfl, rfl, rfl⟩
theorem lq_RX6_25 : gLq RX6 25 6 2 := ⟨(RX6, TX6, 15), rfl, by decide, wA_t (wt2 (List.mem_of_getElem? (i := 12) (by decide +kernel))) (by decide +kernel), rfl, rfl, rfl⟩
theorem lq_RX6_32 : gLq RX6 32 6 3 := ⟨(RX6, TX6, 15), rfl, by decide, wA_t (wt2 (List.mem_of_getElem? (i := 14) (by decide +kernel))) (by decide +kernel), rfl, rfl, rfl⟩
theorem ln_RX6_29 : gLn RX6 29 0 3 := ⟨(RX0, TX0, 3), rfl, rfl, wA_t (wt1 (List.mem_of_getElem? (i := 111) (by decide +kernel))) (by decide +kernel), wA_t (wt1 (List.mem_of_getElem? (i := 112) (by decide +kernel))) (by decide +kernel), wA_t (wt1 (List.mem_of_getElem? (i := 7) (by decide +kernel))) (by decide +kernel)⟩
theorem li_X0_init : gLi yX0_init cX0_init 1 0 := ⟨wA_t (wt1 (List.mem_of_getElem? (i := 115) (by decide +kernel))) (by decide +kernel), wA_t (wt1 (List.mem_of_getElem? (i := 7) (by decide +kernel))) (by decide +kernel), wA_t (wt1 (List.mem_of_getElem? (i := 114) (by decide +kernel))) (by decide +kernel), rfl, by decide +kernel, by decide +kernel, by decide +kernel⟩
theorem lmn_RX6_31 : Cond.methodLinkNest RX6 31 yX0_init RX10 ∈ lw_tbl := List.mem_append_right _ (wt1 (List.mem_of_getElem? (i := 113) (by decide +kernel)))
theorem lo_RX6_3 : Cond.methodLink RX6 3 Lib.objectInit ∈ wA := wA_t (wt1 (List.mem_of_getElem? (i := 104) (by decide +kernel))) (by decide +kernel)
def iT6a (z : Nat) (τ : gτ) : gτ := iT_X0_init (z + 4) (gnt (gnt (gnt (gnt τ z 17 10) (z + 1) 15 8) (z + 2) 14 8) (z + 3) 0 0)
def iG6a (z x0 : Nat) (G : gG) : gG := gsi (gsr (iG_X0_init (z + 4) (z + 3) (gnw (gsr (gnw (gsr (gnw (gsr (gnw G z) 6 0 x0 (some z)) (z + 1)) 6 1 x0 (some (z + 1))) (z + 2)) 6 2 x0 (some (z + 2))) (z + 3))) 6 3 x0 (some (z + 3))) 6 11 x0 1
def iT_X6_init (z : Nat) (τ : gτ) : gτ := fT (fT (fT (iT6a z τ) (z + 5) 9 10) (z + 15) 5 8) (z + 23) 4 8
def iG_X6_init (z x0 : Nat) (G : gG) : gG := fG (fG (fG (iG6a z x0 G) (z + 5) z 10) (z + 15) (z + 1) 8) (z + 23) (z + 2) 8
set_option maxHeartbeats 4000000 in
set_option maxRecDepth 100000 in
theorem c_X6_init (l : Launch) (X : gX) (hS : gS0 l X) (x0 : Nat) (τ : gτ) (G : gG) (z : Nat) (h0 : gK τ x0 6) : gMC l X yX6_init cX6_init 2 rm_X6_init [.ref x0] τ G z (iT_X6_init z τ) (iG_X6_init z x0 G) (z + 31) := by
  refine g_bodyC (by decide +kernel) (Nat.le_of_ble_eq_true rfl) ?_
  intro p e s m args below meth c ls fx hr hin hw hz hl
  have fx : gFx X p s m args meth c cX6_init 2 RX6 := fx
  have hl : lv_has ls 2 [(0, .ref x0)] := hl
  have hlt : x0 < z := by obtain ⟨n, hn⟩ := h0; have := hw.1.lt hn; omega
  have hne : ∀ k, x0 ≠ z + k := fun k => by omega
  have hne0 : x0 ≠ z := by omega
  have hbd0 := gBd.of hw hz
  show W p l e rm_X6_init s m args below meth c s.heap [] 0 0 (MQ below (gQC X (iT_X6_init z τ) (iG_X6_init z x0 G) (z + 31)) args s 31 473 (gFree X)) _
  refine lv_aload_n fx.1 fx.2.1 dX6_init_0 rfl (lv_at hl 0 rfl) ?_
  refine W.objInit fx.1 fx.2.1 fx.2.2.2.1 (fx.2.2.2.2.1 _ lo_RX6_3) (fx.2.2.2.2.1 _ lo_inst) (fx.2.2.2.2.1 _ lo_code) rfl (hl.1.trans fx.2.2.1.symm) rfl dX6_init_1 (Nat.le_of_ble_eq_true rfl) (Nat.le_of_ble_eq_true rfl) ?_
  refine W.eq (g2 := F0 m 4 ls []) rfl ?_
  refine lv_aload_n fx.1 fx.2.1 dX6_init_4 rfl (lv_at hl 0 rfl) ?_
  refine lv_bipush (v := 10) fx.1 fx.2.1 dX6_init_5 (by decide) ?_
  refine gc_newq fx hS hw hz 5 17 rfl ⟨by decide, by decide⟩ lcn_RX6_9 lao_RX6_9 (N := 10) (by decide) (by decide) (by decide) ⟨Nat.le_of_ble_eq_true rfl, Nat.le_of_ble_eq_true rfl⟩ dX6_init_7 (fun H hle hw hz => ?_)
  have hz : H.size = z + 1 := hz
  have h0 := gK.up hle h0
  refine gc_putF fx hin hw hz h0 lq_RX6_11 rfl ⟨rfl, rfl⟩ gnt_new dX6_init_10 (fun H locs hw hz => ?_)
  refine lv_aload_n fx.1 fx.2.1 dX6_init_13 rfl (lv_at hl 0 rfl) ?_
  refine lv_bipush (v := 8) fx.1 fx.2.1 dX6_init_14 (by decide) ?_
  refine gc_newq fx hS hw hz 3 15 rfl ⟨by decide, by decide⟩ lcn_RX6_17 lao_RX6_17 (N := 8) (by decide) (by decide) (by decide) ⟨Nat.le_of_ble_eq_true rfl, Nat.le_of_ble_eq_true rfl⟩ dX6_init_16 (fun H hle hw hz => ?_)
  have hz : H.size = z + 2 := hz
  have h0 := gK.up hle h0
  refine gc_putF fx hin hw hz h0 lq_RX6_19 rfl ⟨rfl, rfl⟩ gnt_new dX6_init_19 (fun H locs hw hz => ?_)
  refine lv_aload_n fx.1 fx.2.1 dX6_init_22 rfl (lv_at hl 0 rfl) ?_
  refine lv_bipush (v := 8) fx.1 fx.2.1 dX6_init_23 (by decide) ?_
  refine gc_newq fx hS hw hz 2 14 rfl ⟨by decide, by decide⟩ lcn_RX6_23 lao_RX6_23 (N := 8) (by decide) (by decide) (by decide) ⟨Nat.le_of_ble_eq_true rfl, Nat.le_of_ble_eq_true rfl⟩ dX6_init_25 (fun H hle hw hz => ?_)
  have hz : H.size = z + 3 := hz
  have h0 := gK.up hle h0
  refine gc_putF fx hin hw hz h0 lq_RX6_25 rfl ⟨rfl, rfl⟩ gnt_new dX6_init_28 (fun H locs hw hz => ?_)
  refine lv_aload_n fx.1 fx.2.1 dX6_init_31 rfl (lv_at hl 0 rfl) ?_
  refine gc_new fx hw hz ln_RX6_29 ⟨Nat.le_of_ble_eq_true rfl, Nat.le_of_ble_eq_true rfl⟩ dX6_init_32 (fun H hle hw hz => ?_)
  have hz : H.size = z + 4 := hz
  have h0 := gK.up hle h0
  refine lv_dup fx.1 fx.2.1 dX6_init_35 rfl ?_
  refine gc_callIN (As := []) (rest := [.ref (z + 3), .ref x0]) fx hS hw hz (c_X0_init l X hS (z + 3) _ _ (z + 4) gnt_new) li_X0_init lmn_RX6_31 rfl hl.1 rfl ⟨Nat.le_of_ble_eq_true rfl, Nat.le_of_ble_eq_true rfl⟩ (Nat.le_of_ble_eq_true rfl) ⟨Nat.le_of_ble_eq_true rfl, Nat.le_of_ble_eq_true rfl⟩ dX6_init_36 (fun H locs hw hz => ?_)
  have hz : H.size = z + 5 := hz
  have hle2 : gLe (gnt (gnt (gnt (gnt τ z 17 10) (z + 1) 15 8) (z + 2) 14 8) (z + 3) 0 0) (iT_X0_init (z + 4) (gnt (gnt (gnt (gnt τ z 17 10) (z + 1) 15 8) (z + 2) 14 8) (z + 3) 0 0)) := by
    intro a q ha
    by_cases haz : a = z + 4
    · exfalso
      subst haz
      simp [gnt] at ha
      have := hbd0 _ _ ha
      omega
    · simp only [iT_X0_init, gnt, if_neg haz] at ha ⊢
      exact ha
  have h0 := gK.up hle2 h0
  refine gc_putF fx hin hw hz h0 lq_RX6_32 rfl ⟨rfl, rfl⟩ (gK.up hle2 gnt_new) dX6_init_39 (fun H locs hw hz => ?_)
  refine lv_aload_n fx.1 fx.2.1 dX6_init_42 rfl (lv_at hl 0 rfl) ?_
  refine lv_iconst (v := 1) fx.1 fx.2.1 dX6_init_43 (by decide) ?_
  refine gc_puti fx hw hz h0 lp_RX6_36 rfl rfl dX6_init_44 (fun H locs hw hz => ?_)
  refine lv_iconst (v := 0) fx.1 fx.2.1 dX6_init_47 (by decide) ?_
  refine lv_istore_n (lv' := [(1, .int 0), (0, .ref x0)]) fx.1 fx.2.1 dX6_init_48 rfl hl (by decide) rfl (fun ls hl => ?_)
  have hw : gHw X (iT6a z τ) (iG6a z x0 G) H locs := hw
  have h0 : gK (iT6a z τ) x0 6 := h0
  have hbd := gBd.of hw hz
  have ty : iT6a z τ z = some (17, 10) ∧ iT6a z τ (z + 1) = some (15, 8) ∧ iT6a z τ (z + 2) = some (14, 8) := by
    refine ⟨?_, ?_, ?_⟩ <;> simp [iT6a, iT_X0_init, gnt]
  have tg : gr (iG6a z x0 G) 6 0 x0 = some z ∧ gr (iG6a z x0 G) 6 1 x0 = some (z + 1) ∧ gr (iG6a z x0 G) 6 2 x0 = some (z + 2) := by
    refine ⟨?_, ?_, ?_⟩ <;> simp [iG6a, iG_X0_init, gr, gsr, gsi, gnw, hne, hne0]
  refine W.widen (k := 5 + 0) (n := 329 + 0 * 4) (Nat.le_of_ble_eq_true rfl) (Nat.le_of_ble_eq_true rfl) ?_
  refine w_X6_y fx hS x0 z (z + 5) (iT6a z τ) (iG6a z x0 G) hbd h0 ty.1 tg.1 (fun H locs ls hw hz hl => ?_) 10 0 rfl _ _ _ hw hz hl
  have hz : H.size = z + 15 := hz
  have hbd1 := gBd.of hw hz
  have h01 : gK (fT (iT6a z τ) (z + 5) 9 10) x0 6 := gK.up (fT_le hbd 10) h0
  refine lv_iconst (v := 0) fx.1 fx.2.1 dX6_init_74 (by decide) ?_
  refine lv_istore_n (lv' := [(1, .int 0), (0, .ref x0)]) fx.1 fx.2.1 dX6_init_75 rfl hl (by decide) rfl (fun ls hl => ?_)
  refine W.widen (k := 15 + 0) (n := 369 + 0 * 10) (Nat.le_of_ble_eq_true rfl) (Nat.le_of_ble_eq_true rfl) ?_
  refine w_X6_r fx hS x0 (z + 1) (z + 15) (fT (iT6a z τ) (z + 5) 9 10) (fG (iG6a z x0 G) (z + 5) z 10) hbd1 h01 (by rw [fT_eq 10 _ (by omega)]; exact ty.2.1) (by rw [fG_gr (by omega)]; exact tg.2.1) (fun H locs ls hw hz hl => ?_) 8 0 rfl _ _ _ hw hz hl
  have hz : H.size = z + 23 := hz
  have hbd2 := gBd.of hw hz
  have h02 : gK (fT (fT (iT6a z τ) (z + 5) 9 10) (z + 15) 5 8) x0 6 := gK.up (fT_le hbd1 8) h01
  refine lv_iconst (v := 0) fx.1 fx.2.1 dX6_init_101 (by decide) ?_
  refine lv_istore_n (lv' := [(1, .int 0), (0, .ref x0)]) fx.1 fx.2.1 dX6_init_102 rfl hl (by decide) rfl (fun ls hl => ?_)
  refine W.widen (k := 23 + 0) (n := 449 + 0 * 3) (Nat.le_of_ble_eq_true rfl) (Nat.le_of_ble_eq_true rfl) ?_
  refine w_X6_o fx hS x0 (z + 2) (z + 23) (fT (fT (iT6a z τ) (z + 5) 9 10) (z + 15) 5 8) (fG (fG (iG6a z x0 G) (z + 5) z 10) (z + 15) (z + 1) 8) hbd2 h02 (by rw [fT_eq 8 _ (by omega), fT_eq 10 _ (by omega)]; exact ty.2.2) (by rw [fG_gr (by omega), fG_gr (by omega)]; exact tg.2.2) (fun H locs ls hw hz hl => ?_) 8 0 rfl _ _ _ hw hz hl
  have hz : H.size = z + 31 := hz
  exact gc_vret fx hw hz hr dX6_init_128
