theorem dX11_priceOfYarn_0 : decode cX11_priceOfYarn 0 = .ok (.iconst 0, 1) := by decide +kernel
theorem dX11_priceOfYarn_1 : decode cX11_priceOfYarn 1 = .ok (.iconst 3, 1) := by decide +kernel
theorem dX11_priceOfYarn_2 : decode cX11_priceOfYarn 2 = .ok (.aload_n 0, 1) := by decide +kernel
theorem dX11_priceOfYarn_3 : decode cX11_priceOfYarn 3 = .ok (.iload_n 1, 1) := by decide +kernel
theorem dX11_priceOfYarn_4 : decode cX11_priceOfYarn 4 = .ok (.iconst 0, 1) := by decide +kernel
theorem dX11_priceOfYarn_5 : decode cX11_priceOfYarn 5 = .ok (.invokevirtual 132, 3) := by decide +kernel
theorem dX11_priceOfYarn_8 : decode cX11_priceOfYarn 8 = .ok (.imul, 1) := by decide +kernel
theorem dX11_priceOfYarn_9 : decode cX11_priceOfYarn 9 = .ok (.iconst 2, 1) := by decide +kernel
theorem dX11_priceOfYarn_10 : decode cX11_priceOfYarn 10 = .ok (.aload_n 0, 1) := by decide +kernel
theorem dX11_priceOfYarn_11 : decode cX11_priceOfYarn 11 = .ok (.iload_n 1, 1) := by decide +kernel
theorem dX11_priceOfYarn_12 : decode cX11_priceOfYarn 12 = .ok (.iconst 2, 1) := by decide +kernel
theorem dX11_priceOfYarn_13 : decode cX11_priceOfYarn 13 = .ok (.invokevirtual 132, 3) := by decide +kernel
theorem dX11_priceOfYarn_16 : decode cX11_priceOfYarn 16 = .ok (.imul, 1) := by decide +kernel
theorem dX11_priceOfYarn_17 : decode cX11_priceOfYarn 17 = .ok (.isub, 1) := by decide +kernel
theorem dX11_priceOfYarn_18 : decode cX11_priceOfYarn 18 = .ok (.invokestatic 270, 3) := by decide +kernel
theorem dX11_priceOfYarn_21 : decode cX11_priceOfYarn 21 = .ok (.aload_n 0, 1) := by decide +kernel
theorem dX11_priceOfYarn_22 : decode cX11_priceOfYarn 22 = .ok (.iload_n 1, 1) := by decide +kernel
theorem dX11_priceOfYarn_23 : decode cX11_priceOfYarn 23 = .ok (.iconst 3, 1) := by decide +kernel
theorem dX11_priceOfYarn_24 : decode cX11_priceOfYarn 24 = .ok (.invokevirtual 132, 3) := by decide +kernel
theorem dX11_priceOfYarn_27 : decode cX11_priceOfYarn 27 = .ok (.iadd, 1) := by decide +kernel
theorem dX11_priceOfYarn_28 : decode cX11_priceOfYarn 28 = .ok (.ireturn, 1) := by decide +kernel
def rm_X11_priceOfYarn : Room := { frames := 2, cells := 0, slots := 0, locals := 43 }
def f_X11_priceOfYarn (τ : gτ) (x0 : Nat) (x1 : Int32) (G : gG) : Option (Int32) :=
  (f_X11_ofYarn τ x0 x1 (0 : Int32) G).bind fun v1 =>
  (f_X11_ofYarn τ x0 x1 (2 : Int32) G).bind fun v2 =>
  (f_X11_ofYarn τ x0 x1 (3 : Int32) G).bind fun v3 =>
  some ((gmax (0 : Int32) (((3 : Int32) * v1) - ((2 : Int32) * v2))) + v3)
set_option maxHeartbeats 4000000 in
set_option maxRecDepth 100000 in
theorem c_X11_priceOfYarn (l : Launch) (X : gX) (τ : gτ) (x0 : Nat) (x1 : Int32) (G : gG) (h0 : gK τ x0 11) {r : Int32}  (h : f_X11_priceOfYarn τ x0 x1 G = some r) : gM l X τ yX11_priceOfYarn cX11_priceOfYarn 2 (some .int) rm_X11_priceOfYarn [.ref x0, .int x1] G (some (.int r)) G := by
  refine g_body (by decide +kernel) (Nat.le_of_ble_eq_true rfl) ?_
  intro p e s m args below meth c ls fx hr hw hl
  have fx : gFx X p s m args meth c cX11_priceOfYarn 2 RX11 := fx
  have hl : lv_has ls 2 [(0, .ref x0), (1, .int x1)] := hl
  have hok : gOk (f_X11_priceOfYarn τ x0 x1 G) (fun q => q = r) := ⟨_, h, rfl⟩
  unfold f_X11_priceOfYarn at hok
  show W p l e rm_X11_priceOfYarn s m args below meth c s.heap [] 0 0 (MQ below (gQ X τ (some (.int r)) G) args s 0 0 (gFree X)) _
  refine lv_iconst (v := 0) fx.1 fx.2.1 dX11_priceOfYarn_0 (by decide) ?_
  refine lv_iconst (v := 3) fx.1 fx.2.1 dX11_priceOfYarn_1 (by decide) ?_
  refine lv_aload_n fx.1 fx.2.1 dX11_priceOfYarn_2 rfl (lv_at hl 0 rfl) ?_
  refine lv_iload_n fx.1 fx.2.1 dX11_priceOfYarn_3 rfl (lv_at hl 1 rfl) ?_
  refine lv_iconst (v := 0) fx.1 fx.2.1 dX11_priceOfYarn_4 (by decide) ?_
  obtain ⟨v1, hf, hok⟩ := gOk_bind hok
  refine g_callV0 (κ := 11) fx hw (c_X11_ofYarn l X τ x0 x1 (0 : Int32) G h0 hf) lv_RX11_132 ⟨rfl, rfl⟩ rfl rfl h0 rfl hl.1 rfl ⟨Nat.le_of_ble_eq_true rfl, Nat.le_of_ble_eq_true rfl⟩ (Nat.le_of_ble_eq_true rfl) ⟨Nat.le_of_ble_eq_true rfl, Nat.le_of_ble_eq_true rfl⟩ dX11_priceOfYarn_5 (fun H locs hw => ?_)
  refine lv_imul fx.1 fx.2.1 dX11_priceOfYarn_8 ?_
  refine lv_iconst (v := 2) fx.1 fx.2.1 dX11_priceOfYarn_9 (by decide) ?_
  refine lv_aload_n fx.1 fx.2.1 dX11_priceOfYarn_10 rfl (lv_at hl 0 rfl) ?_
  refine lv_iload_n fx.1 fx.2.1 dX11_priceOfYarn_11 rfl (lv_at hl 1 rfl) ?_
  refine lv_iconst (v := 2) fx.1 fx.2.1 dX11_priceOfYarn_12 (by decide) ?_
  obtain ⟨v2, hf, hok⟩ := gOk_bind hok
  refine g_callV0 (κ := 11) fx hw (c_X11_ofYarn l X τ x0 x1 (2 : Int32) G h0 hf) lv_RX11_132 ⟨rfl, rfl⟩ rfl rfl h0 rfl hl.1 rfl ⟨Nat.le_of_ble_eq_true rfl, Nat.le_of_ble_eq_true rfl⟩ (Nat.le_of_ble_eq_true rfl) ⟨Nat.le_of_ble_eq_true rfl, Nat.le_of_ble_eq_true rfl⟩ dX11_priceOfYarn_13 (fun H locs hw => ?_)
  refine lv_imul fx.1 fx.2.1 dX11_priceOfYarn_16 ?_
  refine lv_isub fx.1 fx.2.1 dX11_priceOfYarn_17 ?_
  refine g_mmax fx hl.1 lm_RX11_270 lmst_max lm_init lmco_max ⟨Nat.le_of_ble_eq_true rfl, Nat.le_of_ble_eq_true rfl, Nat.le_of_ble_eq_true rfl, Nat.le_of_ble_eq_true rfl⟩ dX11_priceOfYarn_18 ?_
  refine lv_aload_n fx.1 fx.2.1 dX11_priceOfYarn_21 rfl (lv_at hl 0 rfl) ?_
  refine lv_iload_n fx.1 fx.2.1 dX11_priceOfYarn_22 rfl (lv_at hl 1 rfl) ?_
  refine lv_iconst (v := 3) fx.1 fx.2.1 dX11_priceOfYarn_23 (by decide) ?_
  obtain ⟨v3, hf, hok⟩ := gOk_bind hok
  refine g_callV0 (κ := 11) fx hw (c_X11_ofYarn l X τ x0 x1 (3 : Int32) G h0 hf) lv_RX11_132 ⟨rfl, rfl⟩ rfl rfl h0 rfl hl.1 rfl ⟨Nat.le_of_ble_eq_true rfl, Nat.le_of_ble_eq_true rfl⟩ (Nat.le_of_ble_eq_true rfl) ⟨Nat.le_of_ble_eq_true rfl, Nat.le_of_ble_eq_true rfl⟩ dX11_priceOfYarn_24 (fun H locs hw => ?_)
  refine lv_iadd fx.1 fx.2.1 dX11_priceOfYarn_27 ?_
  cases gOk_some hok
  exact g_iret fx hw hr dX11_priceOfYarn_28
theorem dX11_priceOf_0 : decode cX11_priceOf 0 = .ok (.aload_n 0, 1) := by decide +kernel
theorem dX11_priceOf_1 : decode cX11_priceOf 1 = .ok (.iload_n 1, 1) := by decide +kernel
theorem dX11_priceOf_2 : decode cX11_priceOf 2 = .ok (.invokevirtual 146, 3) := by decide +kernel
theorem dX11_priceOf_5 : decode cX11_priceOf 5 = .ok (.ifCond .eq 48, 3) := by decide +kernel
theorem dX11_priceOf_8 : decode cX11_priceOf 8 = .ok (.aload_n 0, 1) := by decide +kernel
theorem dX11_priceOf_9 : decode cX11_priceOf 9 = .ok (.aload_n 0, 1) := by decide +kernel
theorem dX11_priceOf_10 : decode cX11_priceOf 10 = .ok (.iload_n 1, 1) := by decide +kernel
theorem dX11_priceOf_11 : decode cX11_priceOf 11 = .ok (.iconst 0, 1) := by decide +kernel
theorem dX11_priceOf_12 : decode cX11_priceOf 12 = .ok (.invokevirtual 62, 3) := by decide +kernel
theorem dX11_priceOf_15 : decode cX11_priceOf 15 = .ok (.invokevirtual 306, 3) := by decide +kernel
theorem dX11_priceOf_18 : decode cX11_priceOf 18 = .ok (.aload_n 0, 1) := by decide +kernel
theorem dX11_priceOf_19 : decode cX11_priceOf 19 = .ok (.aload_n 0, 1) := by decide +kernel
theorem dX11_priceOf_20 : decode cX11_priceOf 20 = .ok (.iload_n 1, 1) := by decide +kernel
theorem dX11_priceOf_21 : decode cX11_priceOf 21 = .ok (.iconst 1, 1) := by decide +kernel
theorem dX11_priceOf_22 : decode cX11_priceOf 22 = .ok (.invokevirtual 62, 3) := by decide +kernel
theorem dX11_priceOf_25 : decode cX11_priceOf 25 = .ok (.invokevirtual 306, 3) := by decide +kernel
theorem dX11_priceOf_28 : decode cX11_priceOf 28 = .ok (.iadd, 1) := by decide +kernel
theorem dX11_priceOf_29 : decode cX11_priceOf 29 = .ok (.aload_n 0, 1) := by decide +kernel
theorem dX11_priceOf_30 : decode cX11_priceOf 30 = .ok (.aload_n 0, 1) := by decide +kernel
theorem dX11_priceOf_31 : decode cX11_priceOf 31 = .ok (.iload_n 1, 1) := by decide +kernel
theorem dX11_priceOf_32 : decode cX11_priceOf 32 = .ok (.iconst 2, 1) := by decide +kernel
theorem dX11_priceOf_33 : decode cX11_priceOf 33 = .ok (.invokevirtual 62, 3) := by decide +kernel
theorem dX11_priceOf_36 : decode cX11_priceOf 36 = .ok (.invokevirtual 306, 3) := by decide +kernel
theorem dX11_priceOf_39 : decode cX11_priceOf 39 = .ok (.iadd, 1) := by decide +kernel
theorem dX11_priceOf_40 : decode cX11_priceOf 40 = .ok (.aload_n 0, 1) := by decide +kernel
theorem dX11_priceOf_41 : decode cX11_priceOf 41 = .ok (.iload_n 1, 1) := by decide +kernel
theorem dX11_priceOf_42 : decode cX11_priceOf 42 = .ok (.iconst 3, 1) := by decide +kernel
theorem dX11_priceOf_43 : decode cX11_priceOf 43 = .ok (.invokevirtual 62, 3) := by decide +kernel
theorem dX11_priceOf_46 : decode cX11_priceOf 46 = .ok (.imul, 1) := by decide +kernel
theorem dX11_priceOf_47 : decode cX11_priceOf 47 = .ok (.bipush 10, 2) := by decide +kernel
theorem dX11_priceOf_49 : decode cX11_priceOf 49 = .ok (.idiv, 1) := by decide +kernel
theorem dX11_priceOf_50 : decode cX11_priceOf 50 = .ok (.goto 4, 3) := by decide +kernel
theorem dX11_priceOf_53 : decode cX11_priceOf 53 = .ok (.iconst 0, 1) := by decide +kernel
theorem dX11_priceOf_54 : decode cX11_priceOf 54 = .ok (.ireturn, 1) := by decide +kernel
theorem lv_RX11_306 : gLv RX11 306 RX11 yX11_priceOfYarn cX11_priceOfYarn 2 (some .int) 1 := gLv_of (wA_t (wt8 (List.mem_of_getElem? (i := 9) (by decide +kernel))) (by decide +kernel)) (wA_t (wt8 (List.mem_of_getElem? (i := 11) (by decide +kernel))) (by decide +kernel)) (wA_of (List.mem_append_left _ (List.mem_map.mpr ⟨(⟨"YearRopeModel", "priceOfYarn", "(I)I"⟩, 20), wp5 (List.mem_of_getElem? (i := 13) (by decide +kernel)), rfl⟩)) (by decide +kernel)) (wA_t (wt1 (List.mem_of_getElem? (i := 12) (by decide +kernel))) (by decide +kernel)) (wA_t (wt8 (List.mem_of_getElem? (i := 12) (by decide +kernel))) (by decide +kernel)) ⟨rfl, by decide +kernel, by decide +kernel, by decide +kernel⟩
def rm_X11_priceOf : Room := { frames := 3, cells := 0, slots := 0, locals := 64 }
def f_X11_priceOf (τ : gτ) (x0 : Nat) (x1 : Int32) (G : gG) : Option (Int32) :=
  (f_X11_isWhole τ x0 x1 G).bind fun v1 =>
  if v1 = 0 then (some (0))
  else ((f_X11_of τ x0 x1 (0 : Int32) G).bind fun v2 =>
  (f_X11_priceOfYarn τ x0 v2 G).bind fun v3 =>
  (f_X11_of τ x0 x1 (1 : Int32) G).bind fun v4 =>
  (f_X11_priceOfYarn τ x0 v4 G).bind fun v5 =>
  (f_X11_of τ x0 x1 (2 : Int32) G).bind fun v6 =>
  (f_X11_priceOfYarn τ x0 v6 G).bind fun v7 =>
  (f_X11_of τ x0 x1 (3 : Int32) G).bind fun v8 =>
  some ((((v3 + v5) + v7) * v8) / (10 : Int32)))
set_option maxHeartbeats 4000000 in
set_option maxRecDepth 100000 in
theorem c_X11_priceOf (l : Launch) (X : gX) (τ : gτ) (x0 : Nat) (x1 : Int32) (G : gG) (h0 : gK τ x0 11) {r : Int32}  (h : f_X11_priceOf τ x0 x1 G = some r) : gM l X τ yX11_priceOf cX11_priceOf 2 (some .int) rm_X11_priceOf [.ref x0, .int x1] G (some (.int r)) G := by
  refine g_body (by decide +kernel) (Nat.le_of_ble_eq_true rfl) ?_
  intro p e s m args below meth c ls fx hr hw hl
  have fx : gFx X p s m args meth c cX11_priceOf 2 RX11 := fx
  have hl : lv_has ls 2 [(0, .ref x0), (1, .int x1)] := hl
  have hok : gOk (f_X11_priceOf τ x0 x1 G) (fun q => q = r) := ⟨_, h, rfl⟩
  unfold f_X11_priceOf at hok
  show W p l e rm_X11_priceOf s m args below meth c s.heap [] 0 0 (MQ below (gQ X τ (some (.int r)) G) args s 0 0 (gFree X)) _
  refine lv_aload_n fx.1 fx.2.1 dX11_priceOf_0 rfl (lv_at hl 0 rfl) ?_
  refine lv_iload_n fx.1 fx.2.1 dX11_priceOf_1 rfl (lv_at hl 1 rfl) ?_
  obtain ⟨v1, hf, hok⟩ := gOk_bind hok
  refine g_callV0 (κ := 11) fx hw (c_X11_isWhole l X τ x0 x1 G h0 hf) lv_RX11_146 ⟨rfl, rfl⟩ rfl rfl h0 rfl hl.1 rfl ⟨Nat.le_of_ble_eq_true rfl, Nat.le_of_ble_eq_true rfl⟩ (Nat.le_of_ble_eq_true rfl) ⟨Nat.le_of_ble_eq_true rfl, Nat.le_of_ble_eq_true rfl⟩ dX11_priceOf_2 (fun H locs hw => ?_)
  refine g_if_eq (tgt := 53) fx dX11_priceOf_5 (by decide) hok (fun hok => ?_) (fun hok => ?_)
  · refine lv_iconst (v := 0) fx.1 fx.2.1 dX11_priceOf_53 (by decide) ?_
    cases gOk_some hok
    exact g_iret fx hw hr dX11_priceOf_54
  · refine lv_aload_n fx.1 fx.2.1 dX11_priceOf_8 rfl (lv_at hl 0 rfl) ?_
    refine lv_aload_n fx.1 fx.2.1 dX11_priceOf_9 rfl (lv_at hl 0 rfl) ?_
    refine lv_iload_n fx.1 fx.2.1 dX11_priceOf_10 rfl (lv_at hl 1 rfl) ?_
    refine lv_iconst (v := 0) fx.1 fx.2.1 dX11_priceOf_11 (by decide) ?_
    obtain ⟨v2, hf, hok⟩ := gOk_bind hok
    refine g_callV0 (κ := 11) fx hw (c_X11_of l X τ x0 x1 (0 : Int32) G h0 hf) lv_RX11_62 ⟨rfl, rfl⟩ rfl rfl h0 rfl hl.1 rfl ⟨Nat.le_of_ble_eq_true rfl, Nat.le_of_ble_eq_true rfl⟩ (Nat.le_of_ble_eq_true rfl) ⟨Nat.le_of_ble_eq_true rfl, Nat.le_of_ble_eq_true rfl⟩ dX11_priceOf_12 (fun H locs hw => ?_)
    obtain ⟨v3, hf, hok⟩ := gOk_bind hok
    refine g_callV0 (κ := 11) fx hw (c_X11_priceOfYarn l X τ x0 v2 G h0 hf) lv_RX11_306 ⟨rfl, rfl⟩ rfl rfl h0 rfl hl.1 rfl ⟨Nat.le_of_ble_eq_true rfl, Nat.le_of_ble_eq_true rfl⟩ (Nat.le_of_ble_eq_true rfl) ⟨Nat.le_of_ble_eq_true rfl, Nat.le_of_ble_eq_true rfl⟩ dX11_priceOf_15 (fun H locs hw => ?_)
    refine lv_aload_n fx.1 fx.2.1 dX11_priceOf_18 rfl (lv_at hl 0 rfl) ?_
    refine lv_aload_n fx.1 fx.2.1 dX11_priceOf_19 rfl (lv_at hl 0 rfl) ?_
    refine lv_iload_n fx.1 fx.2.1 dX11_priceOf_20 rfl (lv_at hl 1 rfl) ?_
    refine lv_iconst (v := 1) fx.1 fx.2.1 dX11_priceOf_21 (by decide) ?_
    obtain ⟨v4, hf, hok⟩ := gOk_bind hok
    refine g_callV0 (κ := 11) fx hw (c_X11_of l X τ x0 x1 (1 : Int32) G h0 hf) lv_RX11_62 ⟨rfl, rfl⟩ rfl rfl h0 rfl hl.1 rfl ⟨Nat.le_of_ble_eq_true rfl, Nat.le_of_ble_eq_true rfl⟩ (Nat.le_of_ble_eq_true rfl) ⟨Nat.le_of_ble_eq_true rfl, Nat.le_of_ble_eq_true rfl⟩ dX11_priceOf_22 (fun H locs hw => ?_)
    obtain ⟨v5, hf, hok⟩ := gOk_bind hok
    refine g_callV0 (κ := 11) fx hw (c_X11_priceOfYarn l X τ x0 v4 G h0 hf) lv_RX11_306 ⟨rfl, rfl⟩ rfl rfl h0 rfl hl.1 rfl ⟨Nat.le_of_ble_eq_true rfl, Nat.le_of_ble_eq_true rfl⟩ (Nat.le_of_ble_eq_true rfl) ⟨Nat.le_of_ble_eq_true rfl, Nat.le_of_ble_eq_true rfl⟩ dX11_priceOf_25 (fun H locs hw => ?_)
    refine lv_iadd fx.1 fx.2.1 dX11_priceOf_28 ?_
    refine lv_aload_n fx.1 fx.2.1 dX11_priceOf_29 rfl (lv_at hl 0 rfl) ?_
    refine lv_aload_n fx.1 fx.2.1 dX11_priceOf_30 rfl (lv_at hl 0 rfl) ?_
    refine lv_iload_n fx.1 fx.2.1 dX11_priceOf_31 rfl (lv_at hl 1 rfl) ?_
    refine lv_iconst (v := 2) fx.1 fx.2.1 dX11_priceOf_32 (by decide) ?_
    obtain ⟨v6, hf, hok⟩ := gOk_bind hok
    refine g_callV0 (κ := 11) fx hw (c_X11_of l X τ x0 x1 (2 : Int32) G h0 hf) lv_RX11_62 ⟨rfl, rfl⟩ rfl rfl h0 rfl hl.1 rfl ⟨Nat.le_of_ble_eq_true rfl, Nat.le_of_ble_eq_true rfl⟩ (Nat.le_of_ble_eq_true rfl) ⟨Nat.le_of_ble_eq_true rfl, Nat.le_of_ble_eq_true rfl⟩ dX11_priceOf_33 (fun H locs hw => ?_)
    obtain ⟨v7, hf, hok⟩ := gOk_bind hok
    refine g_callV0 (κ := 11) fx hw (c_X11_priceOfYarn l X τ x0 v6 G h0 hf) lv_RX11_306 ⟨rfl, rfl⟩ rfl rfl h0 rfl hl.1 rfl ⟨Nat.le_of_ble_eq_true rfl, Nat.le_of_ble_eq_true rfl⟩ (Nat.le_of_ble_eq_true rfl) ⟨Nat.le_of_ble_eq_true rfl, Nat.le_of_ble_eq_true rfl⟩ dX11_priceOf_36 (fun H locs hw => ?_)
    refine lv_iadd fx.1 fx.2.1 dX11_priceOf_39 ?_
    refine lv_aload_n fx.1 fx.2.1 dX11_priceOf_40 rfl (lv_at hl 0 rfl) ?_
    refine lv_iload_n fx.1 fx.2.1 dX11_priceOf_41 rfl (lv_at hl 1 rfl) ?_
    refine lv_iconst (v := 3) fx.1 fx.2.1 dX11_priceOf_42 (by decide) ?_
    obtain ⟨v8, hf, hok⟩ := gOk_bind hok
    refine g_callV0 (κ := 11) fx hw (c_X11_of l X τ x0 x1 (3 : Int32) G h0 hf) lv_RX11_62 ⟨rfl, rfl⟩ rfl rfl h0 rfl hl.1 rfl ⟨Nat.le_of_ble_eq_true rfl, Nat.le_of_ble_eq_true rfl⟩ (Nat.le_of_ble_eq_true rfl) ⟨Nat.le_of_ble_eq_true rfl, Nat.le_of_ble_eq_true rfl⟩ dX11_priceOf_43 (fun H locs hw => ?_)
    refine lv_imul fx.1 fx.2.1 dX11_priceOf_46 ?_
    refine lv_bipush (v := 10) fx.1 fx.2.1 dX11_priceOf_47 (by decide) ?_
    refine lv_idiv fx.1 fx.2.1 dX11_priceOf_49 (by decide) ?_
    refine lv_goto (tgt := 54) fx.1 fx.2.1 dX11_priceOf_50 (by decide) ?_
    cases gOk_some hok
    exact g_iret fx hw hr dX11_priceOf_54
theorem dX11_yarnSet_0 : decode cX11_yarnSet 0 = .ok (.iconst 1, 1) := by decide +kernel
theorem dX11_yarnSet_1 : decode cX11_yarnSet 1 = .ok (.aload_n 0, 1) := by decide +kernel
theorem dX11_yarnSet_2 : decode cX11_yarnSet 2 = .ok (.iload_n 1, 1) := by decide +kernel
theorem dX11_yarnSet_3 : decode cX11_yarnSet 3 = .ok (.iconst 0, 1) := by decide +kernel
theorem dX11_yarnSet_4 : decode cX11_yarnSet 4 = .ok (.invokevirtual 62, 3) := by decide +kernel
theorem dX11_yarnSet_7 : decode cX11_yarnSet 7 = .ok (.ishl, 1) := by decide +kernel
theorem dX11_yarnSet_8 : decode cX11_yarnSet 8 = .ok (.iconst 1, 1) := by decide +kernel
theorem dX11_yarnSet_9 : decode cX11_yarnSet 9 = .ok (.aload_n 0, 1) := by decide +kernel
theorem dX11_yarnSet_10 : decode cX11_yarnSet 10 = .ok (.iload_n 1, 1) := by decide +kernel
theorem dX11_yarnSet_11 : decode cX11_yarnSet 11 = .ok (.iconst 1, 1) := by decide +kernel
theorem dX11_yarnSet_12 : decode cX11_yarnSet 12 = .ok (.invokevirtual 62, 3) := by decide +kernel
theorem dX11_yarnSet_15 : decode cX11_yarnSet 15 = .ok (.ishl, 1) := by decide +kernel
theorem dX11_yarnSet_16 : decode cX11_yarnSet 16 = .ok (.ior, 1) := by decide +kernel
theorem dX11_yarnSet_17 : decode cX11_yarnSet 17 = .ok (.iconst 1, 1) := by decide +kernel
theorem dX11_yarnSet_18 : decode cX11_yarnSet 18 = .ok (.aload_n 0, 1) := by decide +kernel
theorem dX11_yarnSet_19 : decode cX11_yarnSet 19 = .ok (.iload_n 1, 1) := by decide +kernel
theorem dX11_yarnSet_20 : decode cX11_yarnSet 20 = .ok (.iconst 2, 1) := by decide +kernel
theorem dX11_yarnSet_21 : decode cX11_yarnSet 21 = .ok (.invokevirtual 62, 3) := by decide +kernel
theorem dX11_yarnSet_24 : decode cX11_yarnSet 24 = .ok (.ishl, 1) := by decide +kernel
theorem dX11_yarnSet_25 : decode cX11_yarnSet 25 = .ok (.ior, 1) := by decide +kernel
theorem dX11_yarnSet_26 : decode cX11_yarnSet 26 = .ok (.ireturn, 1) := by decide +kernel
def rm_X11_yarnSet : Room := { frames := 2, cells := 0, slots := 0, locals := 43 }
def f_X11_yarnSet (τ : gτ) (x0 : Nat) (x1 : Int32) (G : gG) : Option (Int32) :=
  (f_X11_of τ x0 x1 (0 : Int32) G).bind fun v1 =>
  (f_X11_of τ x0 x1 (1 : Int32) G).bind fun v2 =>
  (f_X11_of τ x0 x1 (2 : Int32) G).bind fun v3 =>
  some ((((1 : Int32) <<< (v1 &&& 31)) ||| ((1 : Int32) <<< (v2 &&& 31))) ||| ((1 : Int32) <<< (v3 &&& 31)))
set_option maxHeartbeats 4000000 in
set_option maxRecDepth 100000 in
theorem c_X11_yarnSet (l : Launch) (X : gX) (τ : gτ) (x0 : Nat) (x1 : Int32) (G : gG) (h0 : gK τ x0 11) {r : Int32}  (h : f_X11_yarnSet τ x0 x1 G = some r) : gM l X τ yX11_yarnSet cX11_yarnSet 2 (some .int) rm_X11_yarnSet [.ref x0, .int x1] G (some (.int r)) G := by
  refine g_body (by decide +kernel) (Nat.le_of_ble_eq_true rfl) ?_
  intro p e s m args below meth c ls fx hr hw hl
  have fx : gFx X p s m args meth c cX11_yarnSet 2 RX11 := fx
  have hl : lv_has ls 2 [(0, .ref x0), (1, .int x1)] := hl
  have hok : gOk (f_X11_yarnSet τ x0 x1 G) (fun q => q = r) := ⟨_, h, rfl⟩
  unfold f_X11_yarnSet at hok
  show W p l e rm_X11_yarnSet s m args below meth c s.heap [] 0 0 (MQ below (gQ X τ (some (.int r)) G) args s 0 0 (gFree X)) _
  refine lv_iconst (v := 1) fx.1 fx.2.1 dX11_yarnSet_0 (by decide) ?_
  refine lv_aload_n fx.1 fx.2.1 dX11_yarnSet_1 rfl (lv_at hl 0 rfl) ?_
  refine lv_iload_n fx.1 fx.2.1 dX11_yarnSet_2 rfl (lv_at hl 1 rfl) ?_
  refine lv_iconst (v := 0) fx.1 fx.2.1 dX11_yarnSet_3 (by decide) ?_
  obtain ⟨v1, hf, hok⟩ := gOk_bind hok
  refine g_callV0 (κ := 11) fx hw (c_X11_of l X τ x0 x1 (0 : Int32) G h0 hf) lv_RX11_62 ⟨rfl, rfl⟩ rfl rfl h0 rfl hl.1 rfl ⟨Nat.le_of_ble_eq_true rfl, Nat.le_of_ble_eq_true rfl⟩ (Nat.le_of_ble_eq_true rfl) ⟨Nat.le_of_ble_eq_true rfl, Nat.le_of_ble_eq_true rfl⟩ dX11_yarnSet_4 (fun H locs hw => ?_)
  refine lv_ishl fx.1 fx.2.1 dX11_yarnSet_7 ?_
  refine lv_iconst (v := 1) fx.1 fx.2.1 dX11_yarnSet_8 (by decide) ?_
  refine lv_aload_n fx.1 fx.2.1 dX11_yarnSet_9 rfl (lv_at hl 0 rfl) ?_
  refine lv_iload_n fx.1 fx.2.1 dX11_yarnSet_10 rfl (lv_at hl 1 rfl) ?_
  refine lv_iconst (v := 1) fx.1 fx.2.1 dX11_yarnSet_11 (by decide) ?_
  obtain ⟨v2, hf, hok⟩ := gOk_bind hok
  refine g_callV0 (κ := 11) fx hw (c_X11_of l X τ x0 x1 (1 : Int32) G h0 hf) lv_RX11_62 ⟨rfl, rfl⟩ rfl rfl h0 rfl hl.1 rfl ⟨Nat.le_of_ble_eq_true rfl, Nat.le_of_ble_eq_true rfl⟩ (Nat.le_of_ble_eq_true rfl) ⟨Nat.le_of_ble_eq_true rfl, Nat.le_of_ble_eq_true rfl⟩ dX11_yarnSet_12 (fun H locs hw => ?_)
  refine lv_ishl fx.1 fx.2.1 dX11_yarnSet_15 ?_
  refine lv_ior fx.1 fx.2.1 dX11_yarnSet_16 ?_
  refine lv_iconst (v := 1) fx.1 fx.2.1 dX11_yarnSet_17 (by decide) ?_
  refine lv_aload_n fx.1 fx.2.1 dX11_yarnSet_18 rfl (lv_at hl 0 rfl) ?_
  refine lv_iload_n fx.1 fx.2.1 dX11_yarnSet_19 rfl (lv_at hl 1 rfl) ?_
  refine lv_iconst (v := 2) fx.1 fx.2.1 dX11_yarnSet_20 (by decide) ?_
  obtain ⟨v3, hf, hok⟩ := gOk_bind hok
  refine g_callV0 (κ := 11) fx hw (c_X11_of l X τ x0 x1 (2 : Int32) G h0 hf) lv_RX11_62 ⟨rfl, rfl⟩ rfl rfl h0 rfl hl.1 rfl ⟨Nat.le_of_ble_eq_true rfl, Nat.le_of_ble_eq_true rfl⟩ (Nat.le_of_ble_eq_true rfl) ⟨Nat.le_of_ble_eq_true rfl, Nat.le_of_ble_eq_true rfl⟩ dX11_yarnSet_21 (fun H locs hw => ?_)
  refine lv_ishl fx.1 fx.2.1 dX11_yarnSet_24 ?_
  refine lv_ior fx.1 fx.2.1 dX11_yarnSet_25 ?_
  cases gOk_some hok
  exact g_iret fx hw hr dX11_yarnSet_26
theorem dX11_usesOf_0 : decode cX11_usesOf 0 = .ok (.iconst 0, 1) := by decide +kernel
theorem dX11_usesOf_1 : decode cX11_usesOf 1 = .ok (.istore_n 2, 1) := by decide +kernel
theorem dX11_usesOf_2 : decode cX11_usesOf 2 = .ok (.iconst 0, 1) := by decide +kernel
theorem dX11_usesOf_3 : decode cX11_usesOf 3 = .ok (.istore_n 3, 1) := by decide +kernel
theorem dX11_usesOf_4 : decode cX11_usesOf 4 = .ok (.iload_n 3, 1) := by decide +kernel
theorem dX11_usesOf_5 : decode cX11_usesOf 5 = .ok (.aload_n 0, 1) := by decide +kernel
theorem dX11_usesOf_6 : decode cX11_usesOf 6 = .ok (.invokevirtual 73, 3) := by decide +kernel
theorem dX11_usesOf_9 : decode cX11_usesOf 9 = .ok (.if_icmp .ge 31, 3) := by decide +kernel
theorem dX11_usesOf_12 : decode cX11_usesOf 12 = .ok (.iload_n 2, 1) := by decide +kernel
theorem dX11_usesOf_13 : decode cX11_usesOf 13 = .ok (.aload_n 0, 1) := by decide +kernel
theorem dX11_usesOf_14 : decode cX11_usesOf 14 = .ok (.iload_n 3, 1) := by decide +kernel
theorem dX11_usesOf_15 : decode cX11_usesOf 15 = .ok (.invokevirtual 309, 3) := by decide +kernel
theorem dX11_usesOf_18 : decode cX11_usesOf 18 = .ok (.iload_n 1, 1) := by decide +kernel
theorem dX11_usesOf_19 : decode cX11_usesOf 19 = .ok (.invokestatic 312, 3) := by decide +kernel
theorem dX11_usesOf_22 : decode cX11_usesOf 22 = .ok (.ifCond .eq 9, 3) := by decide +kernel
theorem dX11_usesOf_25 : decode cX11_usesOf 25 = .ok (.iconst 1, 1) := by decide +kernel
theorem dX11_usesOf_26 : decode cX11_usesOf 26 = .ok (.iload_n 3, 1) := by decide +kernel
theorem dX11_usesOf_27 : decode cX11_usesOf 27 = .ok (.ishl, 1) := by decide +kernel
theorem dX11_usesOf_28 : decode cX11_usesOf 28 = .ok (.goto 4, 3) := by decide +kernel
theorem dX11_usesOf_31 : decode cX11_usesOf 31 = .ok (.iconst 0, 1) := by decide +kernel
theorem dX11_usesOf_32 : decode cX11_usesOf 32 = .ok (.ior, 1) := by decide +kernel
theorem dX11_usesOf_33 : decode cX11_usesOf 33 = .ok (.istore_n 2, 1) := by decide +kernel
theorem dX11_usesOf_34 : decode cX11_usesOf 34 = .ok (.iinc 3 1, 3) := by decide +kernel
theorem dX11_usesOf_37 : decode cX11_usesOf 37 = .ok (.goto (-33), 3) := by decide +kernel
theorem dX11_usesOf_40 : decode cX11_usesOf 40 = .ok (.iload_n 2, 1) := by decide +kernel
theorem dX11_usesOf_41 : decode cX11_usesOf 41 = .ok (.ireturn, 1) := by decide +kernel
theorem lv_RX11_309 : gLv RX11 309 RX11 yX11_yarnSet cX11_yarnSet 2 (some .int) 1 := gLv_of (wA_t (wt8 (List.mem_of_getElem? (i := 18) (by decide +kernel))) (by decide +kernel)) (wA_t (wt8 (List.mem_of_getElem? (i := 20) (by decide +kernel))) (by decide +kernel)) (wA_of (List.mem_append_left _ (List.mem_map.mpr ⟨(⟨"YearRopeModel", "yarnSet", "(I)I"⟩, 20), wp5 (List.mem_of_getElem? (i := 15) (by decide +kernel)), rfl⟩)) (by decide +kernel)) (wA_t (wt1 (List.mem_of_getElem? (i := 12) (by decide +kernel))) (by decide +kernel)) (wA_t (wt8 (List.mem_of_getElem? (i := 21) (by decide +kernel))) (by decide +kernel)) ⟨rfl, by decide +kernel, by decide +kernel, by decide +kernel⟩
theorem ls_RX11_312 : gLs RX11 312 yX11_has cX11_has 2 (some .boolean) 2 := gLs_of (wA_t (wt8 (List.mem_of_getElem? (i := 22) (by decide +kernel))) (by decide +kernel)) (wA_t (wt8 (List.mem_of_getElem? (i := 23) (by decide +kernel))) (by decide +kernel)) (wA_t (wt1 (List.mem_of_getElem? (i := 12) (by decide +kernel))) (by decide +kernel)) (wA_t (wt8 (List.mem_of_getElem? (i := 24) (by decide +kernel))) (by decide +kernel)) ⟨by decide +kernel, by decide +kernel, by decide +kernel⟩
def rm_X11_usesOf : Room := { frames := 3, cells := 0, slots := 0, locals := 64 }
def k_X11_usesOf_32 (τ : gτ) (n : Nat) (x0 : Nat) (x1 : Int32) (x3 : Int32) (s0 : Int32) (s1 : Int32) (G : gG) : Option ((Int32 × Int32) ⊕ ((Int32))) :=
  gLet (s0 ||| s1) fun v4 =>
  gLet (x3 + 1) fun v5 =>
  some (.inl (v4, v5))
def b_X11_usesOf_4 (τ : gτ) (n : Nat) (x0 : Nat) (x1 : Int32) (x2 : Int32) (x3 : Int32) (G : gG) : Option ((Int32 × Int32) ⊕ ((Int32))) :=
  (f_X11_ropes τ x0 G).bind fun v1 =>
  if v1 ≤ x3 then (some (.inr x2))
  else ((f_X11_yarnSet τ x0 x3 G).bind fun v2 =>
  (f_X11_has v2 x1).bind fun v3 =>
  if v3 = 0 then (k_X11_usesOf_32 τ n x0 x1 x3 x2 (0 : Int32) G)
  else (k_X11_usesOf_32 τ n x0 x1 x3 x2 ((1 : Int32) <<< (x3 &&& 31)) G))
def l_X11_usesOf_4 (τ : gτ) (n : Nat) (x0 : Nat) (x1 : Int32) (x2 : Int32) (x3 : Int32) (G : gG) : Option ((Int32)) :=
  gIter (fun (q : Int32 × Int32) => b_X11_usesOf_4 τ n x0 x1 q.1 q.2 G) n (x2, x3)
def f_X11_usesOf (τ : gτ) (n : Nat) (x0 : Nat) (x1 : Int32) (G : gG) : Option (Int32) :=
  (l_X11_usesOf_4 τ n x0 x1 (0 : Int32) (0 : Int32) G).bind fun q => gLet q fun z6 => 
  some (z6)
set_option maxHeartbeats 4000000 in
set_option maxRecDepth 100000 in
theorem w_X11_usesOf_32 {X : gX} {τ : gτ} {p : Program} {l : Launch} {e : Env} {s : State} {m : MethodId} {args : Array Value} {below : List Frame} {meth : Method} {c : Code} (fx : gFx X p s m args meth c cX11_usesOf 4 RX11) (n : Nat) (x0 : Nat) (x1 : Int32) (x3 : Int32) (s0 : Int32) (s1 : Int32) (h0 : gK τ x0 11)  {Q : State → Prop} {K : ((Int32 × Int32) ⊕ ((Int32))) → Prop} {G : gG} {H : Heap} {locs : List Loc} {ls : Array Slot} (hw : gHw X τ G H locs) (hl : lv_has ls 4 [(0, .ref x0), (1, .int x1), (3, .int x3)]) (hok : gOk (k_X11_usesOf_32 τ n x0 x1 x3 s0 s1 G) K) (hc : ∀ (y2 : Int32) (y3 : Int32) (H : Heap) (locs : List Loc) (ls : Array Slot), gHw X τ G H locs → lv_has ls 4 [(0, .ref x0), (1, .int x1), (2, .int y2), (3, .int y3)] → K (.inl (y2, y3)) → W p l e rm_X11_usesOf s m args below meth c H locs 0 0 Q (F0 m 4 ls [])) (hx0 : ∀ (y2 : Int32) (H : Heap) (locs : List Loc) (ls : Array Slot), gHw X τ G H locs → lv_has ls 4 [(2, .int y2)] → K (.inr y2) → W p l e rm_X11_usesOf s m args below meth c H locs 0 0 Q (F0 m 40 ls [])) : W p l e rm_X11_usesOf s m args below meth c H locs 0 0 Q (F0 m 32 ls [.int s1, .int s0]) := by
  unfold k_X11_usesOf_32 at hok
  refine lv_ior fx.1 fx.2.1 dX11_usesOf_32 ?_
  refine g_leti hok (fun v4 hok => ?_)
  refine lv_istore_n (lv' := [(2, .int v4), (0, .ref x0), (1, .int x1), (3, .int x3)]) fx.1 fx.2.1 dX11_usesOf_33 rfl hl (by decide) rfl (fun ls hl => ?_)
  obtain ⟨v5, e_v5, hok⟩ := gOk_let hok
  refine lv_iinc (v := v5) (lv' := [(3, .int v5), (2, .int v4), (0, .ref x0), (1, .int x1)]) fx.1 fx.2.1 dX11_usesOf_34 hl (k := 3) rfl (by rw [e_v5]; rfl) (by decide) rfl (fun ls hl => ?_)
  refine lv_goto (tgt := 4) fx.1 fx.2.1 dX11_usesOf_37 (by decide) ?_
  exact hc v4 v5  _ _ _  hw (lv_sub hl [2, 3, 1, 0] rfl) (gOk_some hok)
set_option maxHeartbeats 4000000 in
set_option maxRecDepth 100000 in
theorem w_b_X11_usesOf_4 {X : gX} {τ : gτ} {p : Program} {l : Launch} {e : Env} {s : State} {m : MethodId} {args : Array Value} {below : List Frame} {meth : Method} {c : Code} (fx : gFx X p s m args meth c cX11_usesOf 4 RX11) (n : Nat) (x0 : Nat) (x1 : Int32) (x2 : Int32) (x3 : Int32) (h0 : gK τ x0 11) {Q : State → Prop} {K : ((Int32 × Int32) ⊕ ((Int32))) → Prop} {G : gG} {H : Heap} {locs : List Loc} {ls : Array Slot} (hw : gHw X τ G H locs) (hl : lv_has ls 4 [(0, .ref x0), (1, .int x1), (2, .int x2), (3, .int x3)]) (hok : gOk (b_X11_usesOf_4 τ n x0 x1 x2 x3 G) K) (hc : ∀ (y2 : Int32) (y3 : Int32) (H : Heap) (locs : List Loc) (ls : Array Slot), gHw X τ G H locs → lv_has ls 4 [(0, .ref x0), (1, .int x1), (2, .int y2), (3, .int y3)] → K (.inl (y2, y3)) → W p l e rm_X11_usesOf s m args below meth c H locs 0 0 Q (F0 m 4 ls [])) (hx0 : ∀ (y2 : Int32) (H : Heap) (locs : List Loc) (ls : Array Slot), gHw X τ G H locs → lv_has ls 4 [(2, .int y2)] → K (.inr y2) → W p l e rm_X11_usesOf s m args below meth c H locs 0 0 Q (F0 m 40 ls [])) : W p l e rm_X11_usesOf s m args below meth c H locs 0 0 Q (F0 m 4 ls []) := by
  unfold b_X11_usesOf_4 at hok
  refine lv_iload_n fx.1 fx.2.1 dX11_usesOf_4 rfl (lv_at hl 3 rfl) ?_
  refine lv_aload_n fx.1 fx.2.1 dX11_usesOf_5 rfl (lv_at hl 0 rfl) ?_
  obtain ⟨v1, hf, hok⟩ := gOk_bind hok
  refine g_callV0 (κ := 11) fx hw (c_X11_ropes l X τ x0 G h0 hf) lv_RX11_73 ⟨rfl, rfl⟩ rfl rfl h0 rfl hl.1 rfl ⟨Nat.le_of_ble_eq_true rfl, Nat.le_of_ble_eq_true rfl⟩ (Nat.le_of_ble_eq_true rfl) ⟨Nat.le_of_ble_eq_true rfl, Nat.le_of_ble_eq_true rfl⟩ dX11_usesOf_6 (fun H locs hw => ?_)
  refine g_icmp_ge (tgt := 40) fx dX11_usesOf_9 (by decide) hok (fun hok => ?_) (fun hok => ?_)
  · exact hx0 x2  _ _ _  hw (lv_sub hl [2] rfl) (gOk_some hok)
  · refine lv_iload_n fx.1 fx.2.1 dX11_usesOf_12 rfl (lv_at hl 2 rfl) ?_
    refine lv_aload_n fx.1 fx.2.1 dX11_usesOf_13 rfl (lv_at hl 0 rfl) ?_
    refine lv_iload_n fx.1 fx.2.1 dX11_usesOf_14 rfl (lv_at hl 3 rfl) ?_
    obtain ⟨v2, hf, hok⟩ := gOk_bind hok
    refine g_callV0 (κ := 11) fx hw (c_X11_yarnSet l X τ x0 x3 G h0 hf) lv_RX11_309 ⟨rfl, rfl⟩ rfl rfl h0 rfl hl.1 rfl ⟨Nat.le_of_ble_eq_true rfl, Nat.le_of_ble_eq_true rfl⟩ (Nat.le_of_ble_eq_true rfl) ⟨Nat.le_of_ble_eq_true rfl, Nat.le_of_ble_eq_true rfl⟩ dX11_usesOf_15 (fun H locs hw => ?_)
    refine lv_iload_n fx.1 fx.2.1 dX11_usesOf_18 rfl (lv_at hl 1 rfl) ?_
    obtain ⟨v3, hf, hok⟩ := gOk_bind hok
    refine g_callS0 fx hw (c_X11_has l X τ v2 x1 G  hf) ls_RX11_312 ⟨rfl, rfl⟩ rfl hl.1 rfl ⟨Nat.le_of_ble_eq_true rfl, Nat.le_of_ble_eq_true rfl⟩ (Nat.le_of_ble_eq_true rfl) ⟨Nat.le_of_ble_eq_true rfl, Nat.le_of_ble_eq_true rfl⟩ dX11_usesOf_19 (fun H locs hw => ?_)
    refine g_if_eq (tgt := 31) fx dX11_usesOf_22 (by decide) hok (fun hok => ?_) (fun hok => ?_)
    · refine lv_iconst (v := 0) fx.1 fx.2.1 dX11_usesOf_31 (by decide) ?_
      exact w_X11_usesOf_32 fx n x0 x1 x3 x2 (0 : Int32) h0  hw (lv_sub hl [0, 1, 3] rfl) hok hc hx0
    · refine lv_iconst (v := 1) fx.1 fx.2.1 dX11_usesOf_25 (by decide) ?_
      refine lv_iload_n fx.1 fx.2.1 dX11_usesOf_26 rfl (lv_at hl 3 rfl) ?_
      refine lv_ishl fx.1 fx.2.1 dX11_usesOf_27 ?_
      refine lv_goto (tgt := 32) fx.1 fx.2.1 dX11_usesOf_28 (by decide) ?_
      exact w_X11_usesOf_32 fx n x0 x1 x3 x2 ((1 : Int32) <<< (x3 &&& 31)) h0  hw (lv_sub hl [0, 1, 3] rfl) hok hc hx0
theorem w_l_X11_usesOf_4 {X : gX} {τ : gτ} {p : Program} {l : Launch} {e : Env} {s : State} {m : MethodId} {args : Array Value} {below : List Frame} {meth : Method} {c : Code} (fx : gFx X p s m args meth c cX11_usesOf 4 RX11) (n : Nat) (x0 : Nat) (x1 : Int32) (h0 : gK τ x0 11) (G : gG) {Q : State → Prop} {K : ((Int32)) → Prop} (hx0 : ∀ (y2 : Int32) (H : Heap) (locs : List Loc) (ls : Array Slot), gHw X τ G H locs → lv_has ls 4 [(2, .int y2)] → K y2 → W p l e rm_X11_usesOf s m args below meth c H locs 0 0 Q (F0 m 40 ls [])) : ∀ (k : Nat) (x2 : Int32) (x3 : Int32) (H : Heap) (locs : List Loc) (ls : Array Slot), gHw X τ G H locs → lv_has ls 4 [(0, .ref x0), (1, .int x1), (2, .int x2), (3, .int x3)] → gOk (gIter (fun (q : Int32 × Int32) => b_X11_usesOf_4 τ n x0 x1 q.1 q.2 G) k (x2, x3)) K → W p l e rm_X11_usesOf s m args below meth c H locs 0 0 Q (F0 m 4 ls []) := by
  intro k
  induction k with
  | zero =>
    intro x2 x3  H locs ls hw hl hok
    exact gOk_iter0 hok
  | succ k hc =>
    intro x2 x3  H locs ls hw hl hok
    exact w_b_X11_usesOf_4 fx n x0 x1 x2 x3 h0 hw hl (gOk_iter hok) hc hx0
set_option maxHeartbeats 4000000 in
set_option maxRecDepth 100000 in
theorem c_X11_usesOf (l : Launch) (X : gX) (τ : gτ) (n : Nat) (x0 : Nat) (x1 : Int32) (G : gG) (h0 : gK τ x0 11) {r : Int32}  (h : f_X11_usesOf τ n x0 x1 G = some r) : gM l X τ yX11_usesOf cX11_usesOf 4 (some .int) rm_X11_usesOf [.ref x0, .int x1] G (some (.int r)) G := by
  refine g_body (by decide +kernel) (Nat.le_of_ble_eq_true rfl) ?_
  intro p e s m args below meth c ls fx hr hw hl
  have fx : gFx X p s m args meth c cX11_usesOf 4 RX11 := fx
  have hl : lv_has ls 4 [(0, .ref x0), (1, .int x1)] := hl
  have hok : gOk (f_X11_usesOf τ n x0 x1 G) (fun q => q = r) := ⟨_, h, rfl⟩
  unfold f_X11_usesOf at hok
  show W p l e rm_X11_usesOf s m args below meth c s.heap [] 0 0 (MQ below (gQ X τ (some (.int r)) G) args s 0 0 (gFree X)) _
  refine lv_iconst (v := 0) fx.1 fx.2.1 dX11_usesOf_0 (by decide) ?_
  refine lv_istore_n (lv' := [(2, .int (0 : Int32)), (0, .ref x0), (1, .int x1)]) fx.1 fx.2.1 dX11_usesOf_1 rfl hl (by decide) rfl (fun ls hl => ?_)
  refine lv_iconst (v := 0) fx.1 fx.2.1 dX11_usesOf_2 (by decide) ?_
  refine lv_istore_n (lv' := [(3, .int (0 : Int32)), (2, .int (0 : Int32)), (0, .ref x0), (1, .int x1)]) fx.1 fx.2.1 dX11_usesOf_3 rfl hl (by decide) rfl (fun ls hl => ?_)
  refine w_l_X11_usesOf_4 fx n x0 x1 h0 G ?_ n (0 : Int32) (0 : Int32)  _ _ _  hw (lv_sub hl [2, 3, 1, 0] rfl) (gOk_bindK hok)
  intro z6  H locs ls hw hl hok
  have hok : gOk (ρ := Int32) (some (z6)) _ := hok
  refine lv_iload_n fx.1 fx.2.1 dX11_usesOf_40 rfl (lv_at hl 0 rfl) ?_
  cases gOk_some hok
  exact g_iret fx hw hr dX11_usesOf_41
theorem dX11_sameAs_0 : decode cX11_sameAs 0 = .ok (.iconst 0, 1) := by decide +kernel
theorem dX11_sameAs_1 : decode cX11_sameAs 1 = .ok (.istore_n 2, 1) := by decide +kernel
theorem dX11_sameAs_2 : decode cX11_sameAs 2 = .ok (.iconst 0, 1) := by decide +kernel
theorem dX11_sameAs_3 : decode cX11_sameAs 3 = .ok (.istore_n 3, 1) := by decide +kernel
theorem dX11_sameAs_4 : decode cX11_sameAs 4 = .ok (.iload_n 3, 1) := by decide +kernel
theorem dX11_sameAs_5 : decode cX11_sameAs 5 = .ok (.aload_n 0, 1) := by decide +kernel
theorem dX11_sameAs_6 : decode cX11_sameAs 6 = .ok (.invokevirtual 73, 3) := by decide +kernel
theorem dX11_sameAs_9 : decode cX11_sameAs 9 = .ok (.if_icmp .ge 37, 3) := by decide +kernel
theorem dX11_sameAs_12 : decode cX11_sameAs 12 = .ok (.iload_n 2, 1) := by decide +kernel
theorem dX11_sameAs_13 : decode cX11_sameAs 13 = .ok (.iload_n 3, 1) := by decide +kernel
theorem dX11_sameAs_14 : decode cX11_sameAs 14 = .ok (.iload_n 1, 1) := by decide +kernel
theorem dX11_sameAs_15 : decode cX11_sameAs 15 = .ok (.if_icmp .eq 22, 3) := by decide +kernel
theorem dX11_sameAs_18 : decode cX11_sameAs 18 = .ok (.aload_n 0, 1) := by decide +kernel
theorem dX11_sameAs_19 : decode cX11_sameAs 19 = .ok (.iload_n 3, 1) := by decide +kernel
theorem dX11_sameAs_20 : decode cX11_sameAs 20 = .ok (.invokevirtual 309, 3) := by decide +kernel
theorem dX11_sameAs_23 : decode cX11_sameAs 23 = .ok (.aload_n 0, 1) := by decide +kernel
theorem dX11_sameAs_24 : decode cX11_sameAs 24 = .ok (.iload_n 1, 1) := by decide +kernel
theorem dX11_sameAs_25 : decode cX11_sameAs 25 = .ok (.invokevirtual 309, 3) := by decide +kernel
theorem dX11_sameAs_28 : decode cX11_sameAs 28 = .ok (.if_icmp .ne 9, 3) := by decide +kernel
theorem dX11_sameAs_31 : decode cX11_sameAs 31 = .ok (.iconst 1, 1) := by decide +kernel
theorem dX11_sameAs_32 : decode cX11_sameAs 32 = .ok (.iload_n 3, 1) := by decide +kernel
theorem dX11_sameAs_33 : decode cX11_sameAs 33 = .ok (.ishl, 1) := by decide +kernel
theorem dX11_sameAs_34 : decode cX11_sameAs 34 = .ok (.goto 4, 3) := by decide +kernel
theorem dX11_sameAs_37 : decode cX11_sameAs 37 = .ok (.iconst 0, 1) := by decide +kernel
theorem dX11_sameAs_38 : decode cX11_sameAs 38 = .ok (.ior, 1) := by decide +kernel
theorem dX11_sameAs_39 : decode cX11_sameAs 39 = .ok (.istore_n 2, 1) := by decide +kernel
theorem dX11_sameAs_40 : decode cX11_sameAs 40 = .ok (.iinc 3 1, 3) := by decide +kernel
theorem dX11_sameAs_43 : decode cX11_sameAs 43 = .ok (.goto (-39), 3) := by decide +kernel
theorem dX11_sameAs_46 : decode cX11_sameAs 46 = .ok (.iload_n 2, 1) := by decide +kernel
theorem dX11_sameAs_47 : decode cX11_sameAs 47 = .ok (.ireturn, 1) := by decide +kernel
def rm_X11_sameAs : Room := { frames := 3, cells := 0, slots := 0, locals := 64 }
def k_X11_sameAs_38 (τ : gτ) (n : Nat) (x0 : Nat) (x1 : Int32) (x3 : Int32) (s0 : Int32) (s1 : Int32) (G : gG) : Option ((Int32 × Int32) ⊕ ((Int32))) :=
  gLet (s0 ||| s1) fun v2 =>
  gLet (x3 + 1) fun v3 =>
  some (.inl (v2, v3))
def k_X11_sameAs_37 (τ : gτ) (n : Nat) (x0 : Nat) (x1 : Int32) (x3 : Int32) (s0 : Int32) (G : gG) : Option ((Int32 × Int32) ⊕ ((Int32))) :=
  k_X11_sameAs_38 τ n x0 x1 x3 s0 (0 : Int32) G
def b_X11_sameAs_4 (τ : gτ) (n : Nat) (x0 : Nat) (x1 : Int32) (x2 : Int32) (x3 : Int32) (G : gG) : Option ((Int32 × Int32) ⊕ ((Int32))) :=
  (f_X11_ropes τ x0 G).bind fun v1 =>
  if v1 ≤ x3 then (some (.inr x2))
  else (if x3 = x1 then (k_X11_sameAs_37 τ n x0 x1 x3 x2 G)
  else ((f_X11_yarnSet τ x0 x3 G).bind fun v4 =>
  (f_X11_yarnSet τ x0 x1 G).bind fun v5 =>
  if v4 = v5 then (k_X11_sameAs_38 τ n x0 x1 x3 x2 ((1 : Int32) <<< (x3 &&& 31)) G)
  else (k_X11_sameAs_37 τ n x0 x1 x3 x2 G)))
def l_X11_sameAs_4 (τ : gτ) (n : Nat) (x0 : Nat) (x1 : Int32) (x2 : Int32) (x3 : Int32) (G : gG) : Option ((Int32)) :=
  gIter (fun (q : Int32 × Int32) => b_X11_sameAs_4 τ n x0 x1 q.1 q.2 G) n (x2, x3)
def f_X11_sameAs (τ : gτ) (n : Nat) (x0 : Nat) (x1 : Int32) (G : gG) : Option (Int32) :=
  (l_X11_sameAs_4 τ n x0 x1 (0 : Int32) (0 : Int32) G).bind fun q => gLet q fun z6 => 
  some (z6)
set_option maxHeartbeats 4000000 in
set_option maxRecDepth 100000 in
theorem w_X11_sameAs_38 {X : gX} {τ : gτ} {p : Program} {l : Launch} {e : Env} {s : State} {m : MethodId} {args : Array Value} {below : List Frame} {meth : Method} {c : Code} (fx : gFx X p s m args meth c cX11_sameAs 4 RX11) (n : Nat) (x0 : Nat) (x1 : Int32) (x3 : Int32) (s0 : Int32) (s1 : Int32) (h0 : gK τ x0 11)  {Q : State → Prop} {K : ((Int32 × Int32) ⊕ ((Int32))) → Prop} {G : gG} {H : Heap} {locs : List Loc} {ls : Array Slot} (hw : gHw X τ G H locs) (hl : lv_has ls 4 [(0, .ref x0), (1, .int x1), (3, .int x3)]) (hok : gOk (k_X11_sameAs_38 τ n x0 x1 x3 s0 s1 G) K) (hc : ∀ (y2 : Int32) (y3 : Int32) (H : Heap) (locs : List Loc) (ls : Array Slot), gHw X τ G H locs → lv_has ls 4 [(0, .ref x0), (1, .int x1), (2, .int y2), (3, .int y3)] → K (.inl (y2, y3)) → W p l e rm_X11_sameAs s m args below meth c H locs 0 0 Q (F0 m 4 ls [])) (hx0 : ∀ (y2 : Int32) (H : Heap) (locs : List Loc) (ls : Array Slot), gHw X τ G H locs → lv_has ls 4 [(2, .int y2)] → K (.inr y2) → W p l e rm_X11_sameAs s m args below meth c H locs 0 0 Q (F0 m 46 ls [])) : W p l e rm_X11_sameAs s m args below meth c H locs 0 0 Q (F0 m 38 ls [.int s1, .int s0]) := by
  unfold k_X11_sameAs_38 at hok
  refine lv_ior fx.1 fx.2.1 dX11_sameAs_38 ?_
  refine g_leti hok (fun v2 hok => ?_)
  refine lv_istore_n (lv' := [(2, .int v2), (0, .ref x0), (1, .int x1), (3, .int x3)]) fx.1 fx.2.1 dX11_sameAs_39 rfl hl (by decide) rfl (fun ls hl => ?_)
  obtain ⟨v3, e_v3, hok⟩ := gOk_let hok
  refine lv_iinc (v := v3) (lv' := [(3, .int v3), (2, .int v2), (0, .ref x0), (1, .int x1)]) fx.1 fx.2.1 dX11_sameAs_40 hl (k := 3) rfl (by rw [e_v3]; rfl) (by decide) rfl (fun ls hl => ?_)
  refine lv_goto (tgt := 4) fx.1 fx.2.1 dX11_sameAs_43 (by decide) ?_
  exact hc v2 v3  _ _ _  hw (lv_sub hl [2, 3, 1, 0] rfl) (gOk_some hok)
set_option maxHeartbeats 4000000 in
set_option maxRecDepth 100000 in
theorem w_X11_sameAs_37 {X : gX} {τ : gτ} {p : Program} {l : Launch} {e : Env} {s : State} {m : MethodId} {args : Array Value} {below : List Frame} {meth : Method} {c : Code} (fx : gFx X p s m args meth c cX11_sameAs 4 RX11) (n : Nat) (x0 : Nat) (x1 : Int32) (x3 : Int32) (s0 : Int32) (h0 : gK τ x0 11)  {Q : State → Prop} {K : ((Int32 × Int32) ⊕ ((Int32))) → Prop} {G : gG} {H : Heap} {locs : List Loc} {ls : Array Slot} (hw : gHw X τ G H locs) (hl : lv_has ls 4 [(0, .ref x0), (1, .int x1), (3, .int x3)]) (hok : gOk (k_X11_sameAs_37 τ n x0 x1 x3 s0 G) K) (hc : ∀ (y2 : Int32) (y3 : Int32) (H : Heap) (locs : List Loc) (ls : Array Slot), gHw X τ G H locs → lv_has ls 4 [(0, .ref x0), (1, .int x1), (2, .int y2), (3, .int y3)] → K (.inl (y2, y3)) → W p l e rm_X11_sameAs s m args below meth c H locs 0 0 Q (F0 m 4 ls [])) (hx0 : ∀ (y2 : Int32) (H : Heap) (locs : List Loc) (ls : Array Slot), gHw X τ G H locs → lv_has ls 4 [(2, .int y2)] → K (.inr y2) → W p l e rm_X11_sameAs s m args below meth c H locs 0 0 Q (F0 m 46 ls [])) : W p l e rm_X11_sameAs s m args below meth c H locs 0 0 Q (F0 m 37 ls [.int s0]) := by
  unfold k_X11_sameAs_37 at hok
  refine lv_iconst (v := 0) fx.1 fx.2.1 dX11_sameAs_37 (by decide) ?_
  exact w_X11_sameAs_38 fx n x0 x1 x3 s0 (0 : Int32) h0  hw (lv_sub hl [0, 1, 2] rfl) hok hc hx0
set_option maxHeartbeats 4000000 in
set_option maxRecDepth 100000 in
theorem w_b_X11_sameAs_4 {X : gX} {τ : gτ} {p : Program} {l : Launch} {e : Env} {s : State} {m : MethodId} {args : Array Value} {below : List Frame} {meth : Method} {c : Code} (fx : gFx X p s m args meth c cX11_sameAs 4 RX11) (n : Nat) (x0 : Nat) (x1 : Int32) (x2 : Int32) (x3 : Int32) (h0 : gK τ x0 11) {Q : State → Prop} {K : ((Int32 × Int32) ⊕ ((Int32))) → Prop} {G : gG} {H : Heap} {locs : List Loc} {ls : Array Slot} (hw : gHw X τ G H locs) (hl : lv_has ls 4 [(0, .ref x0), (1, .int x1), (2, .int x2), (3, .int x3)]) (hok : gOk (b_X11_sameAs_4 τ n x0 x1 x2 x3 G) K) (hc : ∀ (y2 : Int32) (y3 : Int32) (H : Heap) (locs : List Loc) (ls : Array Slot), gHw X τ G H locs → lv_has ls 4 [(0, .ref x0), (1, .int x1), (2, .int y2), (3, .int y3)] → K (.inl (y2, y3)) → W p l e rm_X11_sameAs s m args below meth c H locs 0 0 Q (F0 m 4 ls [])) (hx0 : ∀ (y2 : Int32) (H : Heap) (locs : List Loc) (ls : Array Slot), gHw X τ G H locs → lv_has ls 4 [(2, .int y2)] → K (.inr y2) → W p l e rm_X11_sameAs s m args below meth c H locs 0 0 Q (F0 m 46 ls [])) : W p l e rm_X11_sameAs s m args below meth c H locs 0 0 Q (F0 m 4 ls []) := by
  unfold b_X11_sameAs_4 at hok
  refine lv_iload_n fx.1 fx.2.1 dX11_sameAs_4 rfl (lv_at hl 3 rfl) ?_
  refine lv_aload_n fx.1 fx.2.1 dX11_sameAs_5 rfl (lv_at hl 0 rfl) ?_
  obtain ⟨v1, hf, hok⟩ := gOk_bind hok
  refine g_callV0 (κ := 11) fx hw (c_X11_ropes l X τ x0 G h0 hf) lv_RX11_73 ⟨rfl, rfl⟩ rfl rfl h0 rfl hl.1 rfl ⟨Nat.le_of_ble_eq_true rfl, Nat.le_of_ble_eq_true rfl⟩ (Nat.le_of_ble_eq_true rfl) ⟨Nat.le_of_ble_eq_true rfl, Nat.le_of_ble_eq_true rfl⟩ dX11_sameAs_6 (fun H locs hw => ?_)
  refine g_icmp_ge (tgt := 46) fx dX11_sameAs_9 (by decide) hok (fun hok => ?_) (fun hok => ?_)
  · exact hx0 x2  _ _ _  hw (lv_sub hl [2] rfl) (gOk_some hok)
  · refine lv_iload_n fx.1 fx.2.1 dX11_sameAs_12 rfl (lv_at hl 2 rfl) ?_
    refine lv_iload_n fx.1 fx.2.1 dX11_sameAs_13 rfl (lv_at hl 3 rfl) ?_
    refine lv_iload_n fx.1 fx.2.1 dX11_sameAs_14 rfl (lv_at hl 1 rfl) ?_
    refine g_icmp_eq (tgt := 37) fx dX11_sameAs_15 (by decide) hok (fun hok => ?_) (fun hok => ?_)
    · exact w_X11_sameAs_37 fx n x0 x1 x3 x2 h0  hw (lv_sub hl [0, 1, 3] rfl) hok hc hx0
    · refine lv_aload_n fx.1 fx.2.1 dX11_sameAs_18 rfl (lv_at hl 0 rfl) ?_
      refine lv_iload_n fx.1 fx.2.1 dX11_sameAs_19 rfl (lv_at hl 3 rfl) ?_
      obtain ⟨v4, hf, hok⟩ := gOk_bind hok
      refine g_callV0 (κ := 11) fx hw (c_X11_yarnSet l X τ x0 x3 G h0 hf) lv_RX11_309 ⟨rfl, rfl⟩ rfl rfl h0 rfl hl.1 rfl ⟨Nat.le_of_ble_eq_true rfl, Nat.le_of_ble_eq_true rfl⟩ (Nat.le_of_ble_eq_true rfl) ⟨Nat.le_of_ble_eq_true rfl, Nat.le_of_ble_eq_true rfl⟩ dX11_sameAs_20 (fun H locs hw => ?_)
      refine lv_aload_n fx.1 fx.2.1 dX11_sameAs_23 rfl (lv_at hl 0 rfl) ?_
      refine lv_iload_n fx.1 fx.2.1 dX11_sameAs_24 rfl (lv_at hl 1 rfl) ?_
      obtain ⟨v5, hf, hok⟩ := gOk_bind hok
      refine g_callV0 (κ := 11) fx hw (c_X11_yarnSet l X τ x0 x1 G h0 hf) lv_RX11_309 ⟨rfl, rfl⟩ rfl rfl h0 rfl hl.1 rfl ⟨Nat.le_of_ble_eq_true rfl, Nat.le_of_ble_eq_true rfl⟩ (Nat.le_of_ble_eq_true rfl) ⟨Nat.le_of_ble_eq_true rfl, Nat.le_of_ble_eq_true rfl⟩ dX11_sameAs_25 (fun H locs hw => ?_)
      refine g_icmp_ne (tgt := 37) fx dX11_sameAs_28 (by decide) hok (fun hok => ?_) (fun hok => ?_)
      · refine lv_iconst (v := 1) fx.1 fx.2.1 dX11_sameAs_31 (by decide) ?_
        refine lv_iload_n fx.1 fx.2.1 dX11_sameAs_32 rfl (lv_at hl 3 rfl) ?_
        refine lv_ishl fx.1 fx.2.1 dX11_sameAs_33 ?_
        refine lv_goto (tgt := 38) fx.1 fx.2.1 dX11_sameAs_34 (by decide) ?_
        exact w_X11_sameAs_38 fx n x0 x1 x3 x2 ((1 : Int32) <<< (x3 &&& 31)) h0  hw (lv_sub hl [0, 1, 3] rfl) hok hc hx0
      · exact w_X11_sameAs_37 fx n x0 x1 x3 x2 h0  hw (lv_sub hl [0, 1, 3] rfl) hok hc hx0
theorem w_l_X11_sameAs_4 {X : gX} {τ : gτ} {p : Program} {l : Launch} {e : Env} {s : State} {m : MethodId} {args : Array Value} {below : List Frame} {meth : Method} {c : Code} (fx : gFx X p s m args meth c cX11_sameAs 4 RX11) (n : Nat) (x0 : Nat) (x1 : Int32) (h0 : gK τ x0 11) (G : gG) {Q : State → Prop} {K : ((Int32)) → Prop} (hx0 : ∀ (y2 : Int32) (H : Heap) (locs : List Loc) (ls : Array Slot), gHw X τ G H locs → lv_has ls 4 [(2, .int y2)] → K y2 → W p l e rm_X11_sameAs s m args below meth c H locs 0 0 Q (F0 m 46 ls [])) : ∀ (k : Nat) (x2 : Int32) (x3 : Int32) (H : Heap) (locs : List Loc) (ls : Array Slot), gHw X τ G H locs → lv_has ls 4 [(0, .ref x0), (1, .int x1), (2, .int x2), (3, .int x3)] → gOk (gIter (fun (q : Int32 × Int32) => b_X11_sameAs_4 τ n x0 x1 q.1 q.2 G) k (x2, x3)) K → W p l e rm_X11_sameAs s m args below meth c H locs 0 0 Q (F0 m 4 ls []) := by
  intro k
  induction k with
  | zero =>
    intro x2 x3  H locs ls hw hl hok
    exact gOk_iter0 hok
  | succ k hc =>
    intro x2 x3  H locs ls hw hl hok
    exact w_b_X11_sameAs_4 fx n x0 x1 x2 x3 h0 hw hl (gOk_iter hok) hc hx0
set_option maxHeartbeats 4000000 in
set_option maxRecDepth 100000 in
theorem c_X11_sameAs (l : Launch) (X : gX) (τ : gτ) (n : Nat) (x0 : Nat) (x1 : Int32) (G : gG) (h0 : gK τ x0 11) {r : Int32}  (h : f_X11_sameAs τ n x0 x1 G = some r) : gM l X τ yX11_sameAs cX11_sameAs 4 (some .int) rm_X11_sameAs [.ref x0, .int x1] G (some (.int r)) G := by
  refine g_body (by decide +kernel) (Nat.le_of_ble_eq_true rfl) ?_
  intro p e s m args below meth c ls fx hr hw hl
  have fx : gFx X p s m args meth c cX11_sameAs 4 RX11 := fx
  have hl : lv_has ls 4 [(0, .ref x0), (1, .int x1)] := hl
  have hok : gOk (f_X11_sameAs τ n x0 x1 G) (fun q => q = r) := ⟨_, h, rfl⟩
  unfold f_X11_sameAs at hok
  show W p l e rm_X11_sameAs s m args below meth c s.heap [] 0 0 (MQ below (gQ X τ (some (.int r)) G) args s 0 0 (gFree X)) _
  refine lv_iconst (v := 0) fx.1 fx.2.1 dX11_sameAs_0 (by decide) ?_
  refine lv_istore_n (lv' := [(2, .int (0 : Int32)), (0, .ref x0), (1, .int x1)]) fx.1 fx.2.1 dX11_sameAs_1 rfl hl (by decide) rfl (fun ls hl => ?_)
  refine lv_iconst (v := 0) fx.1 fx.2.1 dX11_sameAs_2 (by decide) ?_
  refine lv_istore_n (lv' := [(3, .int (0 : Int32)), (2, .int (0 : Int32)), (0, .ref x0), (1, .int x1)]) fx.1 fx.2.1 dX11_sameAs_3 rfl hl (by decide) rfl (fun ls hl => ?_)
  refine w_l_X11_sameAs_4 fx n x0 x1 h0 G ?_ n (0 : Int32) (0 : Int32)  _ _ _  hw (lv_sub hl [2, 3, 1, 0] rfl) (gOk_bindK hok)
  intro z6  H locs ls hw hl hok
  have hok : gOk (ρ := Int32) (some (z6)) _ := hok
  refine lv_iload_n fx.1 fx.2.1 dX11_sameAs_46 rfl (lv_at hl 0 rfl) ?_
  cases gOk_some hok
  exact g_iret fx hw hr dX11_sameAs_47
theorem dX11_yarn_0 : decode cX11_yarn 0 = .ok (.aload_n 0, 1) := by decide +kernel
theorem dX11_yarn_1 : decode cX11_yarn 1 = .ok (.iconst 0, 1) := by decide +kernel
theorem dX11_yarn_2 : decode cX11_yarn 2 = .ok (.putfield 3, 3) := by decide +kernel
theorem dX11_yarn_5 : decode cX11_yarn 5 = .ok (.aload_n 0, 1) := by decide +kernel
theorem dX11_yarn_6 : decode cX11_yarn 6 = .ok (.aload_n 0, 1) := by decide +kernel
theorem dX11_yarn_7 : decode cX11_yarn 7 = .ok (.iload_n 1, 1) := by decide +kernel
theorem dX11_yarn_8 : decode cX11_yarn 8 = .ok (.invokevirtual 315, 3) := by decide +kernel
theorem dX11_yarn_11 : decode cX11_yarn 11 = .ok (.iconst 1, 1) := by decide +kernel
theorem dX11_yarn_12 : decode cX11_yarn 12 = .ok (.invokevirtual 263, 3) := by decide +kernel
theorem dX11_yarn_15 : decode cX11_yarn 15 = .ok (.ifCond .ne 25, 3) := by decide +kernel
theorem dX11_yarn_18 : decode cX11_yarn 18 = .ok (.aload_n 0, 1) := by decide +kernel
theorem dX11_yarn_19 : decode cX11_yarn 19 = .ok (.iload_n 2, 1) := by decide +kernel
theorem dX11_yarn_20 : decode cX11_yarn 20 = .ok (.iconst 0, 1) := by decide +kernel
theorem dX11_yarn_21 : decode cX11_yarn 21 = .ok (.iconst 5, 1) := by decide +kernel
theorem dX11_yarn_22 : decode cX11_yarn 22 = .ok (.invokestatic 69, 3) := by decide +kernel
theorem dX11_yarn_25 : decode cX11_yarn 25 = .ok (.ifCond .ne 7, 3) := by decide +kernel
theorem dX11_yarn_28 : decode cX11_yarn 28 = .ok (.iconst 1, 1) := by decide +kernel
theorem dX11_yarn_29 : decode cX11_yarn 29 = .ok (.goto 4, 3) := by decide +kernel
theorem dX11_yarn_32 : decode cX11_yarn 32 = .ok (.iconst 0, 1) := by decide +kernel
theorem dX11_yarn_33 : decode cX11_yarn 33 = .ok (.iconst 2, 1) := by decide +kernel
theorem dX11_yarn_34 : decode cX11_yarn 34 = .ok (.invokevirtual 263, 3) := by decide +kernel
theorem dX11_yarn_37 : decode cX11_yarn 37 = .ok (.ifCond .eq 5, 3) := by decide +kernel
theorem dX11_yarn_40 : decode cX11_yarn 40 = .ok (.iconst 0, 1) := by decide +kernel
theorem dX11_yarn_41 : decode cX11_yarn 41 = .ok (.ireturn, 1) := by decide +kernel
theorem dX11_yarn_42 : decode cX11_yarn 42 = .ok (.iload_n 2, 1) := by decide +kernel
theorem dX11_yarn_43 : decode cX11_yarn 43 = .ok (.iconst 4, 1) := by decide +kernel
theorem dX11_yarn_44 : decode cX11_yarn 44 = .ok (.if_icmp .ne 11, 3) := by decide +kernel
theorem dX11_yarn_47 : decode cX11_yarn 47 = .ok (.aload_n 0, 1) := by decide +kernel
theorem dX11_yarn_48 : decode cX11_yarn 48 = .ok (.iload_n 1, 1) := by decide +kernel
theorem dX11_yarn_49 : decode cX11_yarn 49 = .ok (.invokevirtual 306, 3) := by decide +kernel
theorem dX11_yarn_52 : decode cX11_yarn 52 = .ok (.goto 22, 3) := by decide +kernel
theorem dX11_yarn_55 : decode cX11_yarn 55 = .ok (.iload_n 2, 1) := by decide +kernel
theorem dX11_yarn_56 : decode cX11_yarn 56 = .ok (.iconst 5, 1) := by decide +kernel
theorem dX11_yarn_57 : decode cX11_yarn 57 = .ok (.if_icmp .ne 11, 3) := by decide +kernel
theorem dX11_yarn_60 : decode cX11_yarn 60 = .ok (.aload_n 0, 1) := by decide +kernel
theorem dX11_yarn_61 : decode cX11_yarn 61 = .ok (.iload_n 1, 1) := by decide +kernel
theorem dX11_yarn_62 : decode cX11_yarn 62 = .ok (.invokevirtual 318, 3) := by decide +kernel
theorem dX11_yarn_65 : decode cX11_yarn 65 = .ok (.goto 9, 3) := by decide +kernel
theorem dX11_yarn_68 : decode cX11_yarn 68 = .ok (.aload_n 0, 1) := by decide +kernel
theorem dX11_yarn_69 : decode cX11_yarn 69 = .ok (.iload_n 1, 1) := by decide +kernel
theorem dX11_yarn_70 : decode cX11_yarn 70 = .ok (.iload_n 2, 1) := by decide +kernel
theorem dX11_yarn_71 : decode cX11_yarn 71 = .ok (.invokevirtual 132, 3) := by decide +kernel
theorem dX11_yarn_74 : decode cX11_yarn 74 = .ok (.ireturn, 1) := by decide +kernel
theorem lv_RX11_315 : gLv RX11 315 RX11 yX11_noYarn cX11_noYarn 2 (some .boolean) 1 := gLv_of (wA_t (wt8 (List.mem_of_getElem? (i := 2) (by decide +kernel))) (by decide +kernel)) (wA_t (wt8 (List.mem_of_getElem? (i := 4) (by decide +kernel))) (by decide +kernel)) (wA_of (List.mem_append_left _ (List.mem_map.mpr ⟨(⟨"YearRopeModel", "noYarn", "(I)Z"⟩, 20), wp5 (List.mem_of_getElem? (i := 12) (by decide +kernel)), rfl⟩)) (by decide +kernel)) (wA_t (wt1 (List.mem_of_getElem? (i := 12) (by decide +kernel))) (by decide +kernel)) (wA_t (wt8 (List.mem_of_getElem? (i := 5) (by decide +kernel))) (by decide +kernel)) ⟨rfl, by decide +kernel, by decide +kernel, by decide +kernel⟩
theorem lv_RX11_318 : gLv RX11 318 RX11 yX11_usesOf cX11_usesOf 4 (some .int) 1 := gLv_of (wA_t (wt8 (List.mem_of_getElem? (i := 14) (by decide +kernel))) (by decide +kernel)) (wA_t (wt8 (List.mem_of_getElem? (i := 16) (by decide +kernel))) (by decide +kernel)) (wA_of (List.mem_append_left _ (List.mem_map.mpr ⟨(⟨"YearRopeModel", "usesOf", "(I)I"⟩, 20), wp5 (List.mem_of_getElem? (i := 14) (by decide +kernel)), rfl⟩)) (by decide +kernel)) (wA_t (wt1 (List.mem_of_getElem? (i := 12) (by decide +kernel))) (by decide +kernel)) (wA_t (wt8 (List.mem_of_getElem? (i := 17) (by decide +kernel))) (by decide +kernel)) ⟨rfl, by decide +kernel, by decide +kernel, by decide +kernel⟩
def rm_X11_yarn : Room := { frames := 4, cells := 0, slots := 0, locals := 87 }
def k_X11_yarn_33 (τ : gτ) (n : Nat) (x0 : Nat) (x1 : Int32) (x2 : Int32) (s0 : Nat) (s1 : Int32) (G : gG) : Option (Int32 × gG) :=
  gBind2 (f_X11_throwsIf s0 s1 (2 : Int32) G) fun v6 G7 =>
  if v6 = 0 then (if x2 = (4 : Int32) then ((f_X11_priceOfYarn τ x0 x1 G7).bind fun v8 =>
  some (v8, G7))
  else (if x2 = (5 : Int32) then ((f_X11_usesOf τ n x0 x1 G7).bind fun v9 =>
  some (v9, G7))
  else ((f_X11_ofYarn τ x0 x1 x2 G7).bind fun v10 =>
  some (v10, G7))))
  else (some (0, G7))
def f_X11_yarn (τ : gτ) (n : Nat) (x0 : Nat) (x1 : Int32) (x2 : Int32) (G : gG) : Option (Int32 × gG) :=
  gLet (gsi G 11 0 x0 (0 : Int32)) fun G1 =>
  (f_X11_noYarn τ x0 x1 G1).bind fun v2 =>
  gBind2 (f_X11_throwsIf x0 v2 (1 : Int32) G1) fun v3 G4 =>
  if v3 = 0 then ((f_X11_in x2 (0 : Int32) (5 : Int32)).bind fun v5 =>
  if v5 = 0 then (k_X11_yarn_33 τ n x0 x1 x2 x0 (1 : Int32) G4)
  else (k_X11_yarn_33 τ n x0 x1 x2 x0 (0 : Int32) G4))
  else (some (0, G4))
set_option maxHeartbeats 4000000 in
set_option maxRecDepth 100000 in
theorem w_X11_yarn_33 {X : gX} {τ : gτ} {p : Program} {l : Launch} {e : Env} {s : State} {m : MethodId} {args : Array Value} {below : List Frame} {meth : Method} {c : Code} (fx : gFx X p s m args meth c cX11_yarn 3 RX11) (n : Nat) (x0 : Nat) (x1 : Int32) (x2 : Int32) (s0 : Nat) (s1 : Int32) (h0 : gK τ x0 11) (hs0 : gK τ s0 11) (hr : meth.sig.returnType = (some .int)) {r : Int32} {G' : gG} {G : gG} {H : Heap} {locs : List Loc} {ls : Array Slot} (hw : gHw X τ G H locs) (hl : lv_has ls 3 [(0, .ref x0), (1, .int x1), (2, .int x2)]) (hok : gOk (k_X11_yarn_33 τ n x0 x1 x2 s0 s1 G) (fun q => q = (r, G')))  : W p l e rm_X11_yarn s m args below meth c H locs 0 0 (MQ below (gQ X τ (some (.int r)) G') args s 0 0 (gFree X)) (F0 m 33 ls [.int s1, .ref s0]) := by
  unfold k_X11_yarn_33 at hok
  refine lv_iconst (v := 2) fx.1 fx.2.1 dX11_yarn_33 (by decide) ?_
  obtain ⟨v6, G7, hf, hok⟩ := gOk_bind2 hok
  refine g_callV0 (κ := 11) fx hw (c_X11_throwsIf l X τ s0 s1 (2 : Int32) G hs0 hf) lv_RX11_263 ⟨rfl, rfl⟩ rfl rfl hs0 rfl hl.1 rfl ⟨Nat.le_of_ble_eq_true rfl, Nat.le_of_ble_eq_true rfl⟩ (Nat.le_of_ble_eq_true rfl) ⟨Nat.le_of_ble_eq_true rfl, Nat.le_of_ble_eq_true rfl⟩ dX11_yarn_34 (fun H locs hw => ?_)
  refine g_if_eq (tgt := 42) fx dX11_yarn_37 (by decide) hok (fun hok => ?_) (fun hok => ?_)
  · refine lv_iload_n fx.1 fx.2.1 dX11_yarn_42 rfl (lv_at hl 2 rfl) ?_
    refine lv_iconst (v := 4) fx.1 fx.2.1 dX11_yarn_43 (by decide) ?_
    refine g_icmp_ne (tgt := 55) fx dX11_yarn_44 (by decide) hok (fun hok => ?_) (fun hok => ?_)
    · refine lv_aload_n fx.1 fx.2.1 dX11_yarn_47 rfl (lv_at hl 0 rfl) ?_
      refine lv_iload_n fx.1 fx.2.1 dX11_yarn_48 rfl (lv_at hl 1 rfl) ?_
      obtain ⟨v8, hf, hok⟩ := gOk_bind hok
      refine g_callV0 (κ := 11) fx hw (c_X11_priceOfYarn l X τ x0 x1 G7 h0 hf) lv_RX11_306 ⟨rfl, rfl⟩ rfl rfl h0 rfl hl.1 rfl ⟨Nat.le_of_ble_eq_true rfl, Nat.le_of_ble_eq_true rfl⟩ (Nat.le_of_ble_eq_true rfl) ⟨Nat.le_of_ble_eq_true rfl, Nat.le_of_ble_eq_true rfl⟩ dX11_yarn_49 (fun H locs hw => ?_)
      refine lv_goto (tgt := 74) fx.1 fx.2.1 dX11_yarn_52 (by decide) ?_
      cases gOk_some hok
      exact g_iret fx hw hr dX11_yarn_74
    · refine lv_iload_n fx.1 fx.2.1 dX11_yarn_55 rfl (lv_at hl 2 rfl) ?_
      refine lv_iconst (v := 5) fx.1 fx.2.1 dX11_yarn_56 (by decide) ?_
      refine g_icmp_ne (tgt := 68) fx dX11_yarn_57 (by decide) hok (fun hok => ?_) (fun hok => ?_)
      · refine lv_aload_n fx.1 fx.2.1 dX11_yarn_60 rfl (lv_at hl 0 rfl) ?_
        refine lv_iload_n fx.1 fx.2.1 dX11_yarn_61 rfl (lv_at hl 1 rfl) ?_
        obtain ⟨v9, hf, hok⟩ := gOk_bind hok
        refine g_callV0 (κ := 11) fx hw (c_X11_usesOf l X τ n x0 x1 G7 h0 hf) lv_RX11_318 ⟨rfl, rfl⟩ rfl rfl h0 rfl hl.1 rfl ⟨Nat.le_of_ble_eq_true rfl, Nat.le_of_ble_eq_true rfl⟩ (Nat.le_of_ble_eq_true rfl) ⟨Nat.le_of_ble_eq_true rfl, Nat.le_of_ble_eq_true rfl⟩ dX11_yarn_62 (fun H locs hw => ?_)
        refine lv_goto (tgt := 74) fx.1 fx.2.1 dX11_yarn_65 (by decide) ?_
        cases gOk_some hok
        exact g_iret fx hw hr dX11_yarn_74
      · refine lv_aload_n fx.1 fx.2.1 dX11_yarn_68 rfl (lv_at hl 0 rfl) ?_
        refine lv_iload_n fx.1 fx.2.1 dX11_yarn_69 rfl (lv_at hl 1 rfl) ?_
        refine lv_iload_n fx.1 fx.2.1 dX11_yarn_70 rfl (lv_at hl 2 rfl) ?_
        obtain ⟨v10, hf, hok⟩ := gOk_bind hok
        refine g_callV0 (κ := 11) fx hw (c_X11_ofYarn l X τ x0 x1 x2 G7 h0 hf) lv_RX11_132 ⟨rfl, rfl⟩ rfl rfl h0 rfl hl.1 rfl ⟨Nat.le_of_ble_eq_true rfl, Nat.le_of_ble_eq_true rfl⟩ (Nat.le_of_ble_eq_true rfl) ⟨Nat.le_of_ble_eq_true rfl, Nat.le_of_ble_eq_true rfl⟩ dX11_yarn_71 (fun H locs hw => ?_)
        cases gOk_some hok
        exact g_iret fx hw hr dX11_yarn_74
  · refine lv_iconst (v := 0) fx.1 fx.2.1 dX11_yarn_40 (by decide) ?_
    cases gOk_some hok
    exact g_iret fx hw hr dX11_yarn_41
set_option maxHeartbeats 4000000 in
set_option maxRecDepth 100000 in
theorem c_X11_yarn (l : Launch) (X : gX) (τ : gτ) (n : Nat) (x0 : Nat) (x1 : Int32) (x2 : Int32) (G : gG) (h0 : gK τ x0 11) {r : Int32} {G' : gG} (h : f_X11_yarn τ n x0 x1 x2 G = some (r, G')) : gM l X τ yX11_yarn cX11_yarn 3 (some .int) rm_X11_yarn [.ref x0, .int x1, .int x2] G (some (.int r)) G' := by
  refine g_body (by decide +kernel) (Nat.le_of_ble_eq_true rfl) ?_
  intro p e s m args below meth c ls fx hr hw hl
  have fx : gFx X p s m args meth c cX11_yarn 3 RX11 := fx
  have hl : lv_has ls 3 [(0, .ref x0), (1, .int x1), (2, .int x2)] := hl
  have hok : gOk (f_X11_yarn τ n x0 x1 x2 G) (fun q => q = (r, G')) := ⟨_, h, rfl⟩
  unfold f_X11_yarn at hok
  show W p l e rm_X11_yarn s m args below meth c s.heap [] 0 0 (MQ below (gQ X τ (some (.int r)) G') args s 0 0 (gFree X)) _
  refine lv_aload_n fx.1 fx.2.1 dX11_yarn_0 rfl (lv_at hl 0 rfl) ?_
  refine lv_iconst (v := 0) fx.1 fx.2.1 dX11_yarn_1 (by decide) ?_
  refine g_puti fx hw h0 lp_RX11_3 rfl rfl dX11_yarn_2 hok (fun G1 H locs hw hok => ?_)
  refine lv_aload_n fx.1 fx.2.1 dX11_yarn_5 rfl (lv_at hl 0 rfl) ?_
  refine lv_aload_n fx.1 fx.2.1 dX11_yarn_6 rfl (lv_at hl 0 rfl) ?_
  refine lv_iload_n fx.1 fx.2.1 dX11_yarn_7 rfl (lv_at hl 1 rfl) ?_
  obtain ⟨v2, hf, hok⟩ := gOk_bind hok
  refine g_callV0 (κ := 11) fx hw (c_X11_noYarn l X τ x0 x1 G1 h0 hf) lv_RX11_315 ⟨rfl, rfl⟩ rfl rfl h0 rfl hl.1 rfl ⟨Nat.le_of_ble_eq_true rfl, Nat.le_of_ble_eq_true rfl⟩ (Nat.le_of_ble_eq_true rfl) ⟨Nat.le_of_ble_eq_true rfl, Nat.le_of_ble_eq_true rfl⟩ dX11_yarn_8 (fun H locs hw => ?_)
  refine lv_iconst (v := 1) fx.1 fx.2.1 dX11_yarn_11 (by decide) ?_
  obtain ⟨v3, G4, hf, hok⟩ := gOk_bind2 hok
  refine g_callV0 (κ := 11) fx hw (c_X11_throwsIf l X τ x0 v2 (1 : Int32) G1 h0 hf) lv_RX11_263 ⟨rfl, rfl⟩ rfl rfl h0 rfl hl.1 rfl ⟨Nat.le_of_ble_eq_true rfl, Nat.le_of_ble_eq_true rfl⟩ (Nat.le_of_ble_eq_true rfl) ⟨Nat.le_of_ble_eq_true rfl, Nat.le_of_ble_eq_true rfl⟩ dX11_yarn_12 (fun H locs hw => ?_)
  refine g_if_ne (tgt := 40) fx dX11_yarn_15 (by decide) hok (fun hok => ?_) (fun hok => ?_)
  · refine lv_aload_n fx.1 fx.2.1 dX11_yarn_18 rfl (lv_at hl 0 rfl) ?_
    refine lv_iload_n fx.1 fx.2.1 dX11_yarn_19 rfl (lv_at hl 2 rfl) ?_
    refine lv_iconst (v := 0) fx.1 fx.2.1 dX11_yarn_20 (by decide) ?_
    refine lv_iconst (v := 5) fx.1 fx.2.1 dX11_yarn_21 (by decide) ?_
    obtain ⟨v5, hf, hok⟩ := gOk_bind hok
    refine g_callS0 fx hw (c_X11_in l X τ x2 (0 : Int32) (5 : Int32) G4  hf) ls_RX11_69 ⟨rfl, rfl⟩ rfl hl.1 rfl ⟨Nat.le_of_ble_eq_true rfl, Nat.le_of_ble_eq_true rfl⟩ (Nat.le_of_ble_eq_true rfl) ⟨Nat.le_of_ble_eq_true rfl, Nat.le_of_ble_eq_true rfl⟩ dX11_yarn_22 (fun H locs hw => ?_)
    refine g_if_ne (tgt := 32) fx dX11_yarn_25 (by decide) hok (fun hok => ?_) (fun hok => ?_)
    · refine lv_iconst (v := 1) fx.1 fx.2.1 dX11_yarn_28 (by decide) ?_
      refine lv_goto (tgt := 33) fx.1 fx.2.1 dX11_yarn_29 (by decide) ?_
      exact w_X11_yarn_33 fx n x0 x1 x2 x0 (1 : Int32) h0 h0 hr hw (lv_sub hl [0, 1, 2] rfl) hok
    · refine lv_iconst (v := 0) fx.1 fx.2.1 dX11_yarn_32 (by decide) ?_
      exact w_X11_yarn_33 fx n x0 x1 x2 x0 (0 : Int32) h0 h0 hr hw (lv_sub hl [0, 1, 2] rfl) hok
  · refine lv_iconst (v := 0) fx.1 fx.2.1 dX11_yarn_40 (by decide) ?_
    cases gOk_some hok
    exact g_iret fx hw hr dX11_yarn_41
theorem dX11_rope_0 : decode cX11_rope 0 = .ok (.aload_n 0, 1) := by decide +kernel
theorem dX11_rope_1 : decode cX11_rope 1 = .ok (.iconst 0, 1) := by decide +kernel
theorem dX11_rope_2 : decode cX11_rope 2 = .ok (.putfield 3, 3) := by decide +kernel
theorem dX11_rope_5 : decode cX11_rope 5 = .ok (.aload_n 0, 1) := by decide +kernel
theorem dX11_rope_6 : decode cX11_rope 6 = .ok (.aload_n 0, 1) := by decide +kernel
theorem dX11_rope_7 : decode cX11_rope 7 = .ok (.iload_n 1, 1) := by decide +kernel
theorem dX11_rope_8 : decode cX11_rope 8 = .ok (.invokevirtual 321, 3) := by decide +kernel
theorem dX11_rope_11 : decode cX11_rope 11 = .ok (.iconst 1, 1) := by decide +kernel
theorem dX11_rope_12 : decode cX11_rope 12 = .ok (.invokevirtual 263, 3) := by decide +kernel
theorem dX11_rope_15 : decode cX11_rope 15 = .ok (.ifCond .ne 26, 3) := by decide +kernel
theorem dX11_rope_18 : decode cX11_rope 18 = .ok (.aload_n 0, 1) := by decide +kernel
theorem dX11_rope_19 : decode cX11_rope 19 = .ok (.iload_n 2, 1) := by decide +kernel
theorem dX11_rope_20 : decode cX11_rope 20 = .ok (.iconst 0, 1) := by decide +kernel
theorem dX11_rope_21 : decode cX11_rope 21 = .ok (.bipush 13, 2) := by decide +kernel
theorem dX11_rope_23 : decode cX11_rope 23 = .ok (.invokestatic 69, 3) := by decide +kernel
theorem dX11_rope_26 : decode cX11_rope 26 = .ok (.ifCond .ne 7, 3) := by decide +kernel
theorem dX11_rope_29 : decode cX11_rope 29 = .ok (.iconst 1, 1) := by decide +kernel
theorem dX11_rope_30 : decode cX11_rope 30 = .ok (.goto 4, 3) := by decide +kernel
theorem dX11_rope_33 : decode cX11_rope 33 = .ok (.iconst 0, 1) := by decide +kernel
theorem dX11_rope_34 : decode cX11_rope 34 = .ok (.iconst 2, 1) := by decide +kernel
theorem dX11_rope_35 : decode cX11_rope 35 = .ok (.invokevirtual 263, 3) := by decide +kernel
theorem dX11_rope_38 : decode cX11_rope 38 = .ok (.ifCond .eq 5, 3) := by decide +kernel
theorem dX11_rope_41 : decode cX11_rope 41 = .ok (.iconst 0, 1) := by decide +kernel
theorem dX11_rope_42 : decode cX11_rope 42 = .ok (.ireturn, 1) := by decide +kernel
theorem dX11_rope_43 : decode cX11_rope 43 = .ok (.iload_n 2, 1) := by decide +kernel
theorem dX11_rope_44 : decode cX11_rope 44 = .ok (.tableswitch 56 10 13 #[32, 38, 44, 50], 32) := by decide +kernel
theorem dX11_rope_76 : decode cX11_rope 76 = .ok (.aload_n 0, 1) := by decide +kernel
theorem dX11_rope_77 : decode cX11_rope 77 = .ok (.iload_n 1, 1) := by decide +kernel
theorem dX11_rope_78 : decode cX11_rope 78 = .ok (.invokevirtual 303, 3) := by decide +kernel
theorem dX11_rope_81 : decode cX11_rope 81 = .ok (.ireturn, 1) := by decide +kernel
theorem dX11_rope_82 : decode cX11_rope 82 = .ok (.aload_n 0, 1) := by decide +kernel
theorem dX11_rope_83 : decode cX11_rope 83 = .ok (.iload_n 1, 1) := by decide +kernel
theorem dX11_rope_84 : decode cX11_rope 84 = .ok (.invokevirtual 324, 3) := by decide +kernel
theorem dX11_rope_87 : decode cX11_rope 87 = .ok (.ireturn, 1) := by decide +kernel
theorem dX11_rope_88 : decode cX11_rope 88 = .ok (.aload_n 0, 1) := by decide +kernel
theorem dX11_rope_89 : decode cX11_rope 89 = .ok (.iload_n 1, 1) := by decide +kernel
theorem dX11_rope_90 : decode cX11_rope 90 = .ok (.invokevirtual 327, 3) := by decide +kernel
theorem dX11_rope_93 : decode cX11_rope 93 = .ok (.ireturn, 1) := by decide +kernel
theorem dX11_rope_94 : decode cX11_rope 94 = .ok (.aload_n 0, 1) := by decide +kernel
theorem dX11_rope_95 : decode cX11_rope 95 = .ok (.iload_n 1, 1) := by decide +kernel
theorem dX11_rope_96 : decode cX11_rope 96 = .ok (.invokevirtual 330, 3) := by decide +kernel
theorem dX11_rope_99 : decode cX11_rope 99 = .ok (.ireturn, 1) := by decide +kernel
theorem dX11_rope_100 : decode cX11_rope 100 = .ok (.aload_n 0, 1) := by decide +kernel
theorem dX11_rope_101 : decode cX11_rope 101 = .ok (.iload_n 1, 1) := by decide +kernel
theorem dX11_rope_102 : decode cX11_rope 102 = .ok (.iload_n 2, 1) := by decide +kernel
theorem dX11_rope_103 : decode cX11_rope 103 = .ok (.invokevirtual 62, 3) := by decide +kernel
theorem dX11_rope_106 : decode cX11_rope 106 = .ok (.ireturn, 1) := by decide +kernel
theorem lv_RX11_321 : gLv RX11 321 RX11 yX11_noRope cX11_noRope 2 (some .boolean) 1 := gLv_of (wA_t (wt8 (List.mem_of_getElem? (i := 29) (by decide +kernel))) (by decide +kernel)) (wA_t (wt8 (List.mem_of_getElem? (i := 31) (by decide +kernel))) (by decide +kernel)) (wA_of (List.mem_append_left _ (List.mem_map.mpr ⟨(⟨"YearRopeModel", "noRope", "(I)Z"⟩, 20), wp6 (List.mem_of_getElem? (i := 0) (by decide +kernel)), rfl⟩)) (by decide +kernel)) (wA_t (wt1 (List.mem_of_getElem? (i := 12) (by decide +kernel))) (by decide +kernel)) (wA_t (wt8 (List.mem_of_getElem? (i := 32) (by decide +kernel))) (by decide +kernel)) ⟨rfl, by decide +kernel, by decide +kernel, by decide +kernel⟩
theorem lv_RX11_324 : gLv RX11 324 RX11 yX11_wearsBy cX11_wearsBy 2 (some .int) 1 := gLv_of (wA_t (wt8 (List.mem_of_getElem? (i := 74) (by decide +kernel))) (by decide +kernel)) (wA_t (wt8 (List.mem_of_getElem? (i := 76) (by decide +kernel))) (by decide +kernel)) (wA_of (List.mem_append_left _ (List.mem_map.mpr ⟨(⟨"YearRopeModel", "wearsBy", "(I)I"⟩, 20), wp6 (List.mem_of_getElem? (i := 11) (by decide +kernel)), rfl⟩)) (by decide +kernel)) (wA_t (wt1 (List.mem_of_getElem? (i := 12) (by decide +kernel))) (by decide +kernel)) (wA_t (wt8 (List.mem_of_getElem? (i := 77) (by decide +kernel))) (by decide +kernel)) ⟨rfl, by decide +kernel, by decide +kernel, by decide +kernel⟩
theorem lv_RX11_327 : gLv RX11 327 RX11 yX11_priceOf cX11_priceOf 2 (some .int) 1 := gLv_of (wA_t (wt8 (List.mem_of_getElem? (i := 78) (by decide +kernel))) (by decide +kernel)) (wA_t (wt8 (List.mem_of_getElem? (i := 80) (by decide +kernel))) (by decide +kernel)) (wA_of (List.mem_append_left _ (List.mem_map.mpr ⟨(⟨"YearRopeModel", "priceOf", "(I)I"⟩, 20), wp6 (List.mem_of_getElem? (i := 12) (by decide +kernel)), rfl⟩)) (by decide +kernel)) (wA_t (wt1 (List.mem_of_getElem? (i := 12) (by decide +kernel))) (by decide +kernel)) (wA_t (wt8 (List.mem_of_getElem? (i := 81) (by decide +kernel))) (by decide +kernel)) ⟨rfl, by decide +kernel, by decide +kernel, by decide +kernel⟩
theorem lv_RX11_330 : gLv RX11 330 RX11 yX11_sameAs cX11_sameAs 4 (some .int) 1 := gLv_of (wA_t (wt8 (List.mem_of_getElem? (i := 82) (by decide +kernel))) (by decide +kernel)) (wA_t (wt8 (List.mem_of_getElem? (i := 84) (by decide +kernel))) (by decide +kernel)) (wA_of (List.mem_append_left _ (List.mem_map.mpr ⟨(⟨"YearRopeModel", "sameAs", "(I)I"⟩, 20), wp6 (List.mem_of_getElem? (i := 13) (by decide +kernel)), rfl⟩)) (by decide +kernel)) (wA_t (wt1 (List.mem_of_getElem? (i := 12) (by decide +kernel))) (by decide +kernel)) (wA_t (wt8 (List.mem_of_getElem? (i := 85) (by decide +kernel))) (by decide +kernel)) ⟨rfl, by decide +kernel, by decide +kernel, by decide +kernel⟩
def rm_X11_rope : Room := { frames := 8, cells := 0, slots := 0, locals := 185 }
def k_X11_rope_34 (τ : gτ) (n : Nat) (x0 : Nat) (x1 : Int32) (x2 : Int32) (s0 : Nat) (s1 : Int32) (G : gG) : Option (Int32 × gG) :=
  gBind2 (f_X11_throwsIf s0 s1 (2 : Int32) G) fun v6 G7 =>
  if v6 = 0 then (if x2 = 10 then (gBind2 (f_X11_bearsOf τ n x0 x1 G7) fun v8 G9 =>
  some (v8, G9))
  else if x2 = 11 then (gBind2 (f_X11_wearsBy τ n x0 x1 G7) fun v10 G11 =>
  some (v10, G11))
  else if x2 = 12 then ((f_X11_priceOf τ x0 x1 G7).bind fun v12 =>
  some (v12, G7))
  else if x2 = 13 then ((f_X11_sameAs τ n x0 x1 G7).bind fun v13 =>
  some (v13, G7))
  else ((f_X11_of τ x0 x1 x2 G7).bind fun v14 =>
  some (v14, G7)))
  else (some (0, G7))
def f_X11_rope (τ : gτ) (n : Nat) (x0 : Nat) (x1 : Int32) (x2 : Int32) (G : gG) : Option (Int32 × gG) :=
  gLet (gsi G 11 0 x0 (0 : Int32)) fun G1 =>
  (f_X11_noRope τ x0 x1 G1).bind fun v2 =>
  gBind2 (f_X11_throwsIf x0 v2 (1 : Int32) G1) fun v3 G4 =>
  if v3 = 0 then ((f_X11_in x2 (0 : Int32) (13 : Int32)).bind fun v5 =>
  if v5 = 0 then (k_X11_rope_34 τ n x0 x1 x2 x0 (1 : Int32) G4)
  else (k_X11_rope_34 τ n x0 x1 x2 x0 (0 : Int32) G4))
  else (some (0, G4))
set_option maxHeartbeats 4000000 in
set_option maxRecDepth 100000 in
theorem w_X11_rope_34 {X : gX} {τ : gτ} {p : Program} {l : Launch} {e : Env} {s : State} {m : MethodId} {args : Array Value} {below : List Frame} {meth : Method} {c : Code} (fx : gFx X p s m args meth c cX11_rope 3 RX11) (n : Nat) (x0 : Nat) (x1 : Int32) (x2 : Int32) (s0 : Nat) (s1 : Int32) (h0 : gK τ x0 11) (hs0 : gK τ s0 11) (hr : meth.sig.returnType = (some .int)) {r : Int32} {G' : gG} {G : gG} {H : Heap} {locs : List Loc} {ls : Array Slot} (hw : gHw X τ G H locs) (hl : lv_has ls 3 [(0, .ref x0), (1, .int x1), (2, .int x2)]) (hok : gOk (k_X11_rope_34 τ n x0 x1 x2 s0 s1 G) (fun q => q = (r, G')))  : W p l e rm_X11_rope s m args below meth c H locs 0 0 (MQ below (gQ X τ (some (.int r)) G') args s 0 0 (gFree X)) (F0 m 34 ls [.int s1, .ref s0]) := by
  unfold k_X11_rope_34 at hok
  refine lv_iconst (v := 2) fx.1 fx.2.1 dX11_rope_34 (by decide) ?_
  obtain ⟨v6, G7, hf, hok⟩ := gOk_bind2 hok
  refine g_callV0 (κ := 11) fx hw (c_X11_throwsIf l X τ s0 s1 (2 : Int32) G hs0 hf) lv_RX11_263 ⟨rfl, rfl⟩ rfl rfl hs0 rfl hl.1 rfl ⟨Nat.le_of_ble_eq_true rfl, Nat.le_of_ble_eq_true rfl⟩ (Nat.le_of_ble_eq_true rfl) ⟨Nat.le_of_ble_eq_true rfl, Nat.le_of_ble_eq_true rfl⟩ dX11_rope_35 (fun H locs hw => ?_)
  refine g_if_eq (tgt := 43) fx dX11_rope_38 (by decide) hok (fun hok => ?_) (fun hok => ?_)
  · refine lv_iload_n fx.1 fx.2.1 dX11_rope_43 rfl (lv_at hl 2 rfl) ?_
    by_cases hc0 : x2 = 10
    · have hok := gOk_t hok hc0
      refine lv_tableIn (tgt := 76) fx.1 fx.2.1 dX11_rope_44 (by rw [hc0]; decide) (by rw [hc0]; decide) (by rw [hc0]; rfl) (by decide) ?_
      refine lv_aload_n fx.1 fx.2.1 dX11_rope_76 rfl (lv_at hl 0 rfl) ?_
      refine lv_iload_n fx.1 fx.2.1 dX11_rope_77 rfl (lv_at hl 1 rfl) ?_
      obtain ⟨v8, G9, hf, hok⟩ := gOk_bind2 hok
      refine g_callV0 (κ := 11) fx hw (c_X11_bearsOf l X τ n x0 x1 G7 h0 hf) lv_RX11_303 ⟨rfl, rfl⟩ rfl rfl h0 rfl hl.1 rfl ⟨Nat.le_of_ble_eq_true rfl, Nat.le_of_ble_eq_true rfl⟩ (Nat.le_of_ble_eq_true rfl) ⟨Nat.le_of_ble_eq_true rfl, Nat.le_of_ble_eq_true rfl⟩ dX11_rope_78 (fun H locs hw => ?_)
      cases gOk_some hok
      exact g_iret fx hw hr dX11_rope_81
    have hok := gOk_f hok hc0
    by_cases hc1 : x2 = 11
    · have hok := gOk_t hok hc1
      refine lv_tableIn (tgt := 82) fx.1 fx.2.1 dX11_rope_44 (by rw [hc1]; decide) (by rw [hc1]; decide) (by rw [hc1]; rfl) (by decide) ?_
      refine lv_aload_n fx.1 fx.2.1 dX11_rope_82 rfl (lv_at hl 0 rfl) ?_
      refine lv_iload_n fx.1 fx.2.1 dX11_rope_83 rfl (lv_at hl 1 rfl) ?_
      obtain ⟨v10, G11, hf, hok⟩ := gOk_bind2 hok
      refine g_callV0 (κ := 11) fx hw (c_X11_wearsBy l X τ n x0 x1 G7 h0 hf) lv_RX11_324 ⟨rfl, rfl⟩ rfl rfl h0 rfl hl.1 rfl ⟨Nat.le_of_ble_eq_true rfl, Nat.le_of_ble_eq_true rfl⟩ (Nat.le_of_ble_eq_true rfl) ⟨Nat.le_of_ble_eq_true rfl, Nat.le_of_ble_eq_true rfl⟩ dX11_rope_84 (fun H locs hw => ?_)
      cases gOk_some hok
      exact g_iret fx hw hr dX11_rope_87
    have hok := gOk_f hok hc1
    by_cases hc2 : x2 = 12
    · have hok := gOk_t hok hc2
      refine lv_tableIn (tgt := 88) fx.1 fx.2.1 dX11_rope_44 (by rw [hc2]; decide) (by rw [hc2]; decide) (by rw [hc2]; rfl) (by decide) ?_
      refine lv_aload_n fx.1 fx.2.1 dX11_rope_88 rfl (lv_at hl 0 rfl) ?_
      refine lv_iload_n fx.1 fx.2.1 dX11_rope_89 rfl (lv_at hl 1 rfl) ?_
      obtain ⟨v12, hf, hok⟩ := gOk_bind hok
      refine g_callV0 (κ := 11) fx hw (c_X11_priceOf l X τ x0 x1 G7 h0 hf) lv_RX11_327 ⟨rfl, rfl⟩ rfl rfl h0 rfl hl.1 rfl ⟨Nat.le_of_ble_eq_true rfl, Nat.le_of_ble_eq_true rfl⟩ (Nat.le_of_ble_eq_true rfl) ⟨Nat.le_of_ble_eq_true rfl, Nat.le_of_ble_eq_true rfl⟩ dX11_rope_90 (fun H locs hw => ?_)
      cases gOk_some hok
      exact g_iret fx hw hr dX11_rope_93
    have hok := gOk_f hok hc2
    by_cases hc3 : x2 = 13
    · have hok := gOk_t hok hc3
      refine lv_tableIn (tgt := 94) fx.1 fx.2.1 dX11_rope_44 (by rw [hc3]; decide) (by rw [hc3]; decide) (by rw [hc3]; rfl) (by decide) ?_
      refine lv_aload_n fx.1 fx.2.1 dX11_rope_94 rfl (lv_at hl 0 rfl) ?_
      refine lv_iload_n fx.1 fx.2.1 dX11_rope_95 rfl (lv_at hl 1 rfl) ?_
      obtain ⟨v13, hf, hok⟩ := gOk_bind hok
      refine g_callV0 (κ := 11) fx hw (c_X11_sameAs l X τ n x0 x1 G7 h0 hf) lv_RX11_330 ⟨rfl, rfl⟩ rfl rfl h0 rfl hl.1 rfl ⟨Nat.le_of_ble_eq_true rfl, Nat.le_of_ble_eq_true rfl⟩ (Nat.le_of_ble_eq_true rfl) ⟨Nat.le_of_ble_eq_true rfl, Nat.le_of_ble_eq_true rfl⟩ dX11_rope_96 (fun H locs hw => ?_)
      cases gOk_some hok
      exact g_iret fx hw hr dX11_rope_99
    have hok := gOk_f hok hc3
    refine lv_tableOut (tgt := 100) fx.1 fx.2.1 dX11_rope_44 (gOut 10 4 (by decide) (by decide) (by decide) (by decide) (fun j hj => ?_)) (by decide) ?_
    · match j, hj with
      | 0, _ => exact hc0
      | 1, _ => exact hc1
      | 2, _ => exact hc2
      | 3, _ => exact hc3
    · refine lv_aload_n fx.1 fx.2.1 dX11_rope_100 rfl (lv_at hl 0 rfl) ?_
      refine lv_iload_n fx.1 fx.2.1 dX11_rope_101 rfl (lv_at hl 1 rfl) ?_
      refine lv_iload_n fx.1 fx.2.1 dX11_rope_102 rfl (lv_at hl 2 rfl) ?_
      obtain ⟨v14, hf, hok⟩ := gOk_bind hok
      refine g_callV0 (κ := 11) fx hw (c_X11_of l X τ x0 x1 x2 G7 h0 hf) lv_RX11_62 ⟨rfl, rfl⟩ rfl rfl h0 rfl hl.1 rfl ⟨Nat.le_of_ble_eq_true rfl, Nat.le_of_ble_eq_true rfl⟩ (Nat.le_of_ble_eq_true rfl) ⟨Nat.le_of_ble_eq_true rfl, Nat.le_of_ble_eq_true rfl⟩ dX11_rope_103 (fun H locs hw => ?_)
      cases gOk_some hok
      exact g_iret fx hw hr dX11_rope_106
  · refine lv_iconst (v := 0) fx.1 fx.2.1 dX11_rope_41 (by decide) ?_
    cases gOk_some hok
    exact g_iret fx hw hr dX11_rope_42
set_option maxHeartbeats 4000000 in
set_option maxRecDepth 100000 in
theorem c_X11_rope (l : Launch) (X : gX) (τ : gτ) (n : Nat) (x0 : Nat) (x1 : Int32) (x2 : Int32) (G : gG) (h0 : gK τ x0 11) {r : Int32} {G' : gG} (h : f_X11_rope τ n x0 x1 x2 G = some (r, G')) : gM l X τ yX11_rope cX11_rope 3 (some .int) rm_X11_rope [.ref x0, .int x1, .int x2] G (some (.int r)) G' := by
  refine g_body (by decide +kernel) (Nat.le_of_ble_eq_true rfl) ?_
  intro p e s m args below meth c ls fx hr hw hl
  have fx : gFx X p s m args meth c cX11_rope 3 RX11 := fx
  have hl : lv_has ls 3 [(0, .ref x0), (1, .int x1), (2, .int x2)] := hl
  have hok : gOk (f_X11_rope τ n x0 x1 x2 G) (fun q => q = (r, G')) := ⟨_, h, rfl⟩
  unfold f_X11_rope at hok
  show W p l e rm_X11_rope s m args below meth c s.heap [] 0 0 (MQ below (gQ X τ (some (.int r)) G') args s 0 0 (gFree X)) _
  refine lv_aload_n fx.1 fx.2.1 dX11_rope_0 rfl (lv_at hl 0 rfl) ?_
  refine lv_iconst (v := 0) fx.1 fx.2.1 dX11_rope_1 (by decide) ?_
  refine g_puti fx hw h0 lp_RX11_3 rfl rfl dX11_rope_2 hok (fun G1 H locs hw hok => ?_)
  refine lv_aload_n fx.1 fx.2.1 dX11_rope_5 rfl (lv_at hl 0 rfl) ?_
  refine lv_aload_n fx.1 fx.2.1 dX11_rope_6 rfl (lv_at hl 0 rfl) ?_
  refine lv_iload_n fx.1 fx.2.1 dX11_rope_7 rfl (lv_at hl 1 rfl) ?_
  obtain ⟨v2, hf, hok⟩ := gOk_bind hok
  refine g_callV0 (κ := 11) fx hw (c_X11_noRope l X τ x0 x1 G1 h0 hf) lv_RX11_321 ⟨rfl, rfl⟩ rfl rfl h0 rfl hl.1 rfl ⟨Nat.le_of_ble_eq_true rfl, Nat.le_of_ble_eq_true rfl⟩ (Nat.le_of_ble_eq_true rfl) ⟨Nat.le_of_ble_eq_true rfl, Nat.le_of_ble_eq_true rfl⟩ dX11_rope_8 (fun H locs hw => ?_)
  refine lv_iconst (v := 1) fx.1 fx.2.1 dX11_rope_11 (by decide) ?_
  obtain ⟨v3, G4, hf, hok⟩ := gOk_bind2 hok
  refine g_callV0 (κ := 11) fx hw (c_X11_throwsIf l X τ x0 v2 (1 : Int32) G1 h0 hf) lv_RX11_263 ⟨rfl, rfl⟩ rfl rfl h0 rfl hl.1 rfl ⟨Nat.le_of_ble_eq_true rfl, Nat.le_of_ble_eq_true rfl⟩ (Nat.le_of_ble_eq_true rfl) ⟨Nat.le_of_ble_eq_true rfl, Nat.le_of_ble_eq_true rfl⟩ dX11_rope_12 (fun H locs hw => ?_)
  refine g_if_ne (tgt := 41) fx dX11_rope_15 (by decide) hok (fun hok => ?_) (fun hok => ?_)
  · refine lv_aload_n fx.1 fx.2.1 dX11_rope_18 rfl (lv_at hl 0 rfl) ?_
    refine lv_iload_n fx.1 fx.2.1 dX11_rope_19 rfl (lv_at hl 2 rfl) ?_
    refine lv_iconst (v := 0) fx.1 fx.2.1 dX11_rope_20 (by decide) ?_
    refine lv_bipush (v := 13) fx.1 fx.2.1 dX11_rope_21 (by decide) ?_
    obtain ⟨v5, hf, hok⟩ := gOk_bind hok
    refine g_callS0 fx hw (c_X11_in l X τ x2 (0 : Int32) (13 : Int32) G4  hf) ls_RX11_69 ⟨rfl, rfl⟩ rfl hl.1 rfl ⟨Nat.le_of_ble_eq_true rfl, Nat.le_of_ble_eq_true rfl⟩ (Nat.le_of_ble_eq_true rfl) ⟨Nat.le_of_ble_eq_true rfl, Nat.le_of_ble_eq_true rfl⟩ dX11_rope_23 (fun H locs hw => ?_)
    refine g_if_ne (tgt := 33) fx dX11_rope_26 (by decide) hok (fun hok => ?_) (fun hok => ?_)
    · refine lv_iconst (v := 1) fx.1 fx.2.1 dX11_rope_29 (by decide) ?_
      refine lv_goto (tgt := 34) fx.1 fx.2.1 dX11_rope_30 (by decide) ?_
      exact w_X11_rope_34 fx n x0 x1 x2 x0 (1 : Int32) h0 h0 hr hw (lv_sub hl [0, 1, 2] rfl) hok
    · refine lv_iconst (v := 0) fx.1 fx.2.1 dX11_rope_33 (by decide) ?_
      exact w_X11_rope_34 fx n x0 x1 x2 x0 (0 : Int32) h0 h0 hr hw (lv_sub hl [0, 1, 2] rfl) hok
  · refine lv_iconst (v := 0) fx.1 fx.2.1 dX11_rope_41 (by decide) ?_
    cases gOk_some hok
    exact g_iret fx hw hr dX11_rope_42
theorem dX11_order_0 : decode cX11_order 0 = .ok (.aload_n 0, 1) := by decide +kernel
theorem dX11_order_1 : decode cX11_order 1 = .ok (.iconst 0, 1) := by decide +kernel
theorem dX11_order_2 : decode cX11_order 2 = .ok (.putfield 3, 3) := by decide +kernel
theorem dX11_order_5 : decode cX11_order 5 = .ok (.aload_n 0, 1) := by decide +kernel
theorem dX11_order_6 : decode cX11_order 6 = .ok (.aload_n 0, 1) := by decide +kernel
theorem dX11_order_7 : decode cX11_order 7 = .ok (.iload_n 1, 1) := by decide +kernel
theorem dX11_order_8 : decode cX11_order 8 = .ok (.invokevirtual 333, 3) := by decide +kernel
theorem dX11_order_11 : decode cX11_order 11 = .ok (.iconst 1, 1) := by decide +kernel
theorem dX11_order_12 : decode cX11_order 12 = .ok (.invokevirtual 263, 3) := by decide +kernel
theorem dX11_order_15 : decode cX11_order 15 = .ok (.ifCond .ne 25, 3) := by decide +kernel
theorem dX11_order_18 : decode cX11_order 18 = .ok (.aload_n 0, 1) := by decide +kernel
theorem dX11_order_19 : decode cX11_order 19 = .ok (.iload_n 2, 1) := by decide +kernel
theorem dX11_order_20 : decode cX11_order 20 = .ok (.iconst 0, 1) := by decide +kernel
theorem dX11_order_21 : decode cX11_order 21 = .ok (.iconst 2, 1) := by decide +kernel
theorem dX11_order_22 : decode cX11_order 22 = .ok (.invokestatic 69, 3) := by decide +kernel
theorem dX11_order_25 : decode cX11_order 25 = .ok (.ifCond .ne 7, 3) := by decide +kernel
theorem dX11_order_28 : decode cX11_order 28 = .ok (.iconst 1, 1) := by decide +kernel
theorem dX11_order_29 : decode cX11_order 29 = .ok (.goto 4, 3) := by decide +kernel
theorem dX11_order_32 : decode cX11_order 32 = .ok (.iconst 0, 1) := by decide +kernel
theorem dX11_order_33 : decode cX11_order 33 = .ok (.iconst 2, 1) := by decide +kernel
theorem dX11_order_34 : decode cX11_order 34 = .ok (.invokevirtual 263, 3) := by decide +kernel
theorem dX11_order_37 : decode cX11_order 37 = .ok (.ifCond .eq 7, 3) := by decide +kernel
theorem dX11_order_40 : decode cX11_order 40 = .ok (.iconst 0, 1) := by decide +kernel
theorem dX11_order_41 : decode cX11_order 41 = .ok (.goto 9, 3) := by decide +kernel
theorem dX11_order_44 : decode cX11_order 44 = .ok (.aload_n 0, 1) := by decide +kernel
theorem dX11_order_45 : decode cX11_order 45 = .ok (.iload_n 1, 1) := by decide +kernel
theorem dX11_order_46 : decode cX11_order 46 = .ok (.iload_n 2, 1) := by decide +kernel
theorem dX11_order_47 : decode cX11_order 47 = .ok (.invokevirtual 336, 3) := by decide +kernel
theorem dX11_order_50 : decode cX11_order 50 = .ok (.ireturn, 1) := by decide +kernel
theorem lv_RX11_333 : gLv RX11 333 RX11 yX11_noOrder cX11_noOrder 2 (some .boolean) 1 := gLv_of (wA_t (wt8 (List.mem_of_getElem? (i := 90) (by decide +kernel))) (by decide +kernel)) (wA_t (wt8 (List.mem_of_getElem? (i := 92) (by decide +kernel))) (by decide +kernel)) (wA_of (List.mem_append_left _ (List.mem_map.mpr ⟨(⟨"YearRopeModel", "noOrder", "(I)Z"⟩, 20), wp6 (List.mem_of_getElem? (i := 14) (by decide +kernel)), rfl⟩)) (by decide +kernel)) (wA_t (wt1 (List.mem_of_getElem? (i := 12) (by decide +kernel))) (by decide +kernel)) (wA_t (wt8 (List.mem_of_getElem? (i := 93) (by decide +kernel))) (by decide +kernel)) ⟨rfl, by decide +kernel, by decide +kernel, by decide +kernel⟩
theorem lv_RX11_336 : gLv RX11 336 RX11 yX11_ofOrder cX11_ofOrder 3 (some .int) 2 := gLv_of (wA_t (wt8 (List.mem_of_getElem? (i := 94) (by decide +kernel))) (by decide +kernel)) (wA_t (wt8 (List.mem_of_getElem? (i := 96) (by decide +kernel))) (by decide +kernel)) (wA_of (List.mem_append_left _ (List.mem_map.mpr ⟨(⟨"YearRopeModel", "ofOrder", "(II)I"⟩, 20), wp6 (List.mem_of_getElem? (i := 15) (by decide +kernel)), rfl⟩)) (by decide +kernel)) (wA_t (wt1 (List.mem_of_getElem? (i := 12) (by decide +kernel))) (by decide +kernel)) (wA_t (wt8 (List.mem_of_getElem? (i := 97) (by decide +kernel))) (by decide +kernel)) ⟨rfl, by decide +kernel, by decide +kernel, by decide +kernel⟩
def rm_X11_order : Room := { frames := 2, cells := 0, slots := 0, locals := 43 }
def k_X11_order_33 (τ : gτ) (x0 : Nat) (x1 : Int32) (x2 : Int32) (s0 : Nat) (s1 : Int32) (G : gG) : Option (Int32 × gG) :=
  gBind2 (f_X11_throwsIf s0 s1 (2 : Int32) G) fun v6 G7 =>
  if v6 = 0 then ((f_X11_ofOrder τ x0 x1 x2 G7).bind fun v8 =>
  some (v8, G7))
  else (some (0, G7))
def f_X11_order (τ : gτ) (x0 : Nat) (x1 : Int32) (x2 : Int32) (G : gG) : Option (Int32 × gG) :=
  gLet (gsi G 11 0 x0 (0 : Int32)) fun G1 =>
  (f_X11_noOrder τ x0 x1 G1).bind fun v2 =>
  gBind2 (f_X11_throwsIf x0 v2 (1 : Int32) G1) fun v3 G4 =>
  if v3 = 0 then ((f_X11_in x2 (0 : Int32) (2 : Int32)).bind fun v5 =>
  if v5 = 0 then (k_X11_order_33 τ x0 x1 x2 x0 (1 : Int32) G4)
  else (k_X11_order_33 τ x0 x1 x2 x0 (0 : Int32) G4))
  else (some (0, G4))
set_option maxHeartbeats 4000000 in
set_option maxRecDepth 100000 in
theorem w_X11_order_33 {X : gX} {τ : gτ} {p : Program} {l : Launch} {e : Env} {s : State} {m : MethodId} {args : Array Value} {below : List Frame} {meth : Method} {c : Code} (fx : gFx X p s m args meth c cX11_order 3 RX11) (x0 : Nat) (x1 : Int32) (x2 : Int32) (s0 : Nat) (s1 : Int32) (h0 : gK τ x0 11) (hs0 : gK τ s0 11) (hr : meth.sig.returnType = (some .int)) {r : Int32} {G' : gG} {G : gG} {H : Heap} {locs : List Loc} {ls : Array Slot} (hw : gHw X τ G H locs) (hl : lv_has ls 3 [(0, .ref x0), (1, .int x1), (2, .int x2)]) (hok : gOk (k_X11_order_33 τ x0 x1 x2 s0 s1 G) (fun q => q = (r, G')))  : W p l e rm_X11_order s m args below meth c H locs 0 0 (MQ below (gQ X τ (some (.int r)) G') args s 0 0 (gFree X)) (F0 m 33 ls [.int s1, .ref s0]) := by
  unfold k_X11_order_33 at hok
  refine lv_iconst (v := 2) fx.1 fx.2.1 dX11_order_33 (by decide) ?_
  obtain ⟨v6, G7, hf, hok⟩ := gOk_bind2 hok
  refine g_callV0 (κ := 11) fx hw (c_X11_throwsIf l X τ s0 s1 (2 : Int32) G hs0 hf) lv_RX11_263 ⟨rfl, rfl⟩ rfl rfl hs0 rfl hl.1 rfl ⟨Nat.le_of_ble_eq_true rfl, Nat.le_of_ble_eq_true rfl⟩ (Nat.le_of_ble_eq_true rfl) ⟨Nat.le_of_ble_eq_true rfl, Nat.le_of_ble_eq_true rfl⟩ dX11_order_34 (fun H locs hw => ?_)
  refine g_if_eq (tgt := 44) fx dX11_order_37 (by decide) hok (fun hok => ?_) (fun hok => ?_)
  · refine lv_aload_n fx.1 fx.2.1 dX11_order_44 rfl (lv_at hl 0 rfl) ?_
    refine lv_iload_n fx.1 fx.2.1 dX11_order_45 rfl (lv_at hl 1 rfl) ?_
    refine lv_iload_n fx.1 fx.2.1 dX11_order_46 rfl (lv_at hl 2 rfl) ?_
    obtain ⟨v8, hf, hok⟩ := gOk_bind hok
    refine g_callV0 (κ := 11) fx hw (c_X11_ofOrder l X τ x0 x1 x2 G7 h0 hf) lv_RX11_336 ⟨rfl, rfl⟩ rfl rfl h0 rfl hl.1 rfl ⟨Nat.le_of_ble_eq_true rfl, Nat.le_of_ble_eq_true rfl⟩ (Nat.le_of_ble_eq_true rfl) ⟨Nat.le_of_ble_eq_true rfl, Nat.le_of_ble_eq_true rfl⟩ dX11_order_47 (fun H locs hw => ?_)
    cases gOk_some hok
    exact g_iret fx hw hr dX11_order_50
  · refine lv_iconst (v := 0) fx.1 fx.2.1 dX11_order_40 (by decide) ?_
    refine lv_goto (tgt := 50) fx.1 fx.2.1 dX11_order_41 (by decide) ?_
    cases gOk_some hok
    exact g_iret fx hw hr dX11_order_50
set_option maxHeartbeats 4000000 in
set_option maxRecDepth 100000 in
theorem c_X11_order (l : Launch) (X : gX) (τ : gτ) (x0 : Nat) (x1 : Int32) (x2 : Int32) (G : gG) (h0 : gK τ x0 11) {r : Int32} {G' : gG} (h : f_X11_order τ x0 x1 x2 G = some (r, G')) : gM l X τ yX11_order cX11_order 3 (some .int) rm_X11_order [.ref x0, .int x1, .int x2] G (some (.int r)) G' := by
  refine g_body (by decide +kernel) (Nat.le_of_ble_eq_true rfl) ?_
  intro p e s m args below meth c ls fx hr hw hl
  have fx : gFx X p s m args meth c cX11_order 3 RX11 := fx
  have hl : lv_has ls 3 [(0, .ref x0), (1, .int x1), (2, .int x2)] := hl
  have hok : gOk (f_X11_order τ x0 x1 x2 G) (fun q => q = (r, G')) := ⟨_, h, rfl⟩
  unfold f_X11_order at hok
  show W p l e rm_X11_order s m args below meth c s.heap [] 0 0 (MQ below (gQ X τ (some (.int r)) G') args s 0 0 (gFree X)) _
  refine lv_aload_n fx.1 fx.2.1 dX11_order_0 rfl (lv_at hl 0 rfl) ?_
  refine lv_iconst (v := 0) fx.1 fx.2.1 dX11_order_1 (by decide) ?_
  refine g_puti fx hw h0 lp_RX11_3 rfl rfl dX11_order_2 hok (fun G1 H locs hw hok => ?_)
  refine lv_aload_n fx.1 fx.2.1 dX11_order_5 rfl (lv_at hl 0 rfl) ?_
  refine lv_aload_n fx.1 fx.2.1 dX11_order_6 rfl (lv_at hl 0 rfl) ?_
  refine lv_iload_n fx.1 fx.2.1 dX11_order_7 rfl (lv_at hl 1 rfl) ?_
  obtain ⟨v2, hf, hok⟩ := gOk_bind hok
  refine g_callV0 (κ := 11) fx hw (c_X11_noOrder l X τ x0 x1 G1 h0 hf) lv_RX11_333 ⟨rfl, rfl⟩ rfl rfl h0 rfl hl.1 rfl ⟨Nat.le_of_ble_eq_true rfl, Nat.le_of_ble_eq_true rfl⟩ (Nat.le_of_ble_eq_true rfl) ⟨Nat.le_of_ble_eq_true rfl, Nat.le_of_ble_eq_true rfl⟩ dX11_order_8 (fun H locs hw => ?_)
  refine lv_iconst (v := 1) fx.1 fx.2.1 dX11_order_11 (by decide) ?_
  obtain ⟨v3, G4, hf, hok⟩ := gOk_bind2 hok
  refine g_callV0 (κ := 11) fx hw (c_X11_throwsIf l X τ x0 v2 (1 : Int32) G1 h0 hf) lv_RX11_263 ⟨rfl, rfl⟩ rfl rfl h0 rfl hl.1 rfl ⟨Nat.le_of_ble_eq_true rfl, Nat.le_of_ble_eq_true rfl⟩ (Nat.le_of_ble_eq_true rfl) ⟨Nat.le_of_ble_eq_true rfl, Nat.le_of_ble_eq_true rfl⟩ dX11_order_12 (fun H locs hw => ?_)
  refine g_if_ne (tgt := 40) fx dX11_order_15 (by decide) hok (fun hok => ?_) (fun hok => ?_)
  · refine lv_aload_n fx.1 fx.2.1 dX11_order_18 rfl (lv_at hl 0 rfl) ?_
    refine lv_iload_n fx.1 fx.2.1 dX11_order_19 rfl (lv_at hl 2 rfl) ?_
    refine lv_iconst (v := 0) fx.1 fx.2.1 dX11_order_20 (by decide) ?_
    refine lv_iconst (v := 2) fx.1 fx.2.1 dX11_order_21 (by decide) ?_
    obtain ⟨v5, hf, hok⟩ := gOk_bind hok
    refine g_callS0 fx hw (c_X11_in l X τ x2 (0 : Int32) (2 : Int32) G4  hf) ls_RX11_69 ⟨rfl, rfl⟩ rfl hl.1 rfl ⟨Nat.le_of_ble_eq_true rfl, Nat.le_of_ble_eq_true rfl⟩ (Nat.le_of_ble_eq_true rfl) ⟨Nat.le_of_ble_eq_true rfl, Nat.le_of_ble_eq_true rfl⟩ dX11_order_22 (fun H locs hw => ?_)
    refine g_if_ne (tgt := 32) fx dX11_order_25 (by decide) hok (fun hok => ?_) (fun hok => ?_)
    · refine lv_iconst (v := 1) fx.1 fx.2.1 dX11_order_28 (by decide) ?_
      refine lv_goto (tgt := 33) fx.1 fx.2.1 dX11_order_29 (by decide) ?_
      exact w_X11_order_33 fx x0 x1 x2 x0 (1 : Int32) h0 h0 hr hw (lv_sub hl [0, 1, 2] rfl) hok
    · refine lv_iconst (v := 0) fx.1 fx.2.1 dX11_order_32 (by decide) ?_
      exact w_X11_order_33 fx x0 x1 x2 x0 (0 : Int32) h0 h0 hr hw (lv_sub hl [0, 1, 2] rfl) hok
  · refine lv_iconst (v := 0) fx.1 fx.2.1 dX11_order_40 (by decide) ?_
    refine lv_goto (tgt := 50) fx.1 fx.2.1 dX11_order_41 (by decide) ?_
    cases gOk_some hok
    exact g_iret fx hw hr dX11_order_50
theorem dX11_bears_0 : decode cX11_bears 0 = .ok (.aload_n 0, 1) := by decide +kernel
theorem dX11_bears_1 : decode cX11_bears 1 = .ok (.iconst 0, 1) := by decide +kernel
theorem dX11_bears_2 : decode cX11_bears 2 = .ok (.putfield 3, 3) := by decide +kernel
theorem dX11_bears_5 : decode cX11_bears 5 = .ok (.aload_n 0, 1) := by decide +kernel
theorem dX11_bears_6 : decode cX11_bears 6 = .ok (.aload_n 0, 1) := by decide +kernel
theorem dX11_bears_7 : decode cX11_bears 7 = .ok (.iload_n 1, 1) := by decide +kernel
theorem dX11_bears_8 : decode cX11_bears 8 = .ok (.invokevirtual 315, 3) := by decide +kernel
theorem dX11_bears_11 : decode cX11_bears 11 = .ok (.ifCond .ne 19, 3) := by decide +kernel
theorem dX11_bears_14 : decode cX11_bears 14 = .ok (.aload_n 0, 1) := by decide +kernel
theorem dX11_bears_15 : decode cX11_bears 15 = .ok (.iload_n 2, 1) := by decide +kernel
theorem dX11_bears_16 : decode cX11_bears 16 = .ok (.invokevirtual 315, 3) := by decide +kernel
theorem dX11_bears_19 : decode cX11_bears 19 = .ok (.ifCond .ne 11, 3) := by decide +kernel
theorem dX11_bears_22 : decode cX11_bears 22 = .ok (.aload_n 0, 1) := by decide +kernel
theorem dX11_bears_23 : decode cX11_bears 23 = .ok (.iload_n 3, 1) := by decide +kernel
theorem dX11_bears_24 : decode cX11_bears 24 = .ok (.invokevirtual 315, 3) := by decide +kernel
theorem dX11_bears_27 : decode cX11_bears 27 = .ok (.ifCond .eq 7, 3) := by decide +kernel
theorem dX11_bears_30 : decode cX11_bears 30 = .ok (.iconst 1, 1) := by decide +kernel
theorem dX11_bears_31 : decode cX11_bears 31 = .ok (.goto 4, 3) := by decide +kernel
theorem dX11_bears_34 : decode cX11_bears 34 = .ok (.iconst 0, 1) := by decide +kernel
theorem dX11_bears_35 : decode cX11_bears 35 = .ok (.iconst 1, 1) := by decide +kernel
theorem dX11_bears_36 : decode cX11_bears 36 = .ok (.invokevirtual 263, 3) := by decide +kernel
theorem dX11_bears_39 : decode cX11_bears 39 = .ok (.ifCond .ne 37, 3) := by decide +kernel
theorem dX11_bears_42 : decode cX11_bears 42 = .ok (.aload_n 0, 1) := by decide +kernel
theorem dX11_bears_43 : decode cX11_bears 43 = .ok (.iload_n 1, 1) := by decide +kernel
theorem dX11_bears_44 : decode cX11_bears 44 = .ok (.iload_n 2, 1) := by decide +kernel
theorem dX11_bears_45 : decode cX11_bears 45 = .ok (.iload_n 3, 1) := by decide +kernel
theorem dX11_bears_46 : decode cX11_bears 46 = .ok (.invokestatic 339, 3) := by decide +kernel
theorem dX11_bears_49 : decode cX11_bears 49 = .ok (.ifCond .ne 15, 3) := by decide +kernel
theorem dX11_bears_52 : decode cX11_bears 52 = .ok (.iload 4, 2) := by decide +kernel
theorem dX11_bears_54 : decode cX11_bears 54 = .ok (.iconst 1, 1) := by decide +kernel
theorem dX11_bears_55 : decode cX11_bears 55 = .ok (.sipush 400, 3) := by decide +kernel
theorem dX11_bears_58 : decode cX11_bears 58 = .ok (.invokestatic 69, 3) := by decide +kernel
theorem dX11_bears_61 : decode cX11_bears 61 = .ok (.ifCond .ne 7, 3) := by decide +kernel
theorem dX11_bears_64 : decode cX11_bears 64 = .ok (.iconst 1, 1) := by decide +kernel
theorem dX11_bears_65 : decode cX11_bears 65 = .ok (.goto 4, 3) := by decide +kernel
theorem dX11_bears_68 : decode cX11_bears 68 = .ok (.iconst 0, 1) := by decide +kernel
theorem dX11_bears_69 : decode cX11_bears 69 = .ok (.iconst 2, 1) := by decide +kernel
theorem dX11_bears_70 : decode cX11_bears 70 = .ok (.invokevirtual 263, 3) := by decide +kernel
theorem dX11_bears_73 : decode cX11_bears 73 = .ok (.ifCond .eq 5, 3) := by decide +kernel
theorem dX11_bears_76 : decode cX11_bears 76 = .ok (.iconst 0, 1) := by decide +kernel
theorem dX11_bears_77 : decode cX11_bears 77 = .ok (.ireturn, 1) := by decide +kernel
theorem dX11_bears_78 : decode cX11_bears 78 = .ok (.aload_n 0, 1) := by decide +kernel
theorem dX11_bears_79 : decode cX11_bears 79 = .ok (.iload_n 1, 1) := by decide +kernel
theorem dX11_bears_80 : decode cX11_bears 80 = .ok (.iload_n 2, 1) := by decide +kernel
theorem dX11_bears_81 : decode cX11_bears 81 = .ok (.iload_n 3, 1) := by decide +kernel
theorem dX11_bears_82 : decode cX11_bears 82 = .ok (.iload 4, 2) := by decide +kernel
theorem dX11_bears_84 : decode cX11_bears 84 = .ok (.invokevirtual 342, 3) := by decide +kernel
theorem dX11_bears_87 : decode cX11_bears 87 = .ok (.ireturn, 1) := by decide +kernel
theorem ls_RX11_339 : gLs RX11 339 yX11_areTwo cX11_areTwo 3 (some .boolean) 3 := gLs_of (wA_t (wt8 (List.mem_of_getElem? (i := 102) (by decide +kernel))) (by decide +kernel)) (wA_t (wt8 (List.mem_of_getElem? (i := 103) (by decide +kernel))) (by decide +kernel)) (wA_t (wt1 (List.mem_of_getElem? (i := 12) (by decide +kernel))) (by decide +kernel)) (wA_t (wt8 (List.mem_of_getElem? (i := 104) (by decide +kernel))) (by decide +kernel)) ⟨by decide +kernel, by decide +kernel, by decide +kernel⟩
theorem lv_RX11_342 : gLv RX11 342 RX11 yX11_bearsBy cX11_bearsBy 5 (some .int) 4 := gLv_of (wA_t (wt8 (List.mem_of_getElem? (i := 105) (by decide +kernel))) (by decide +kernel)) (wA_t (wt8 (List.mem_of_getElem? (i := 107) (by decide +kernel))) (by decide +kernel)) (wA_of (List.mem_append_left _ (List.mem_map.mpr ⟨(⟨"YearRopeModel", "bearsBy", "(IIII)I"⟩, 20), wp7 (List.mem_of_getElem? (i := 0) (by decide +kernel)), rfl⟩)) (by decide +kernel)) (wA_t (wt1 (List.mem_of_getElem? (i := 12) (by decide +kernel))) (by decide +kernel)) (wA_t (wt8 (List.mem_of_getElem? (i := 108) (by decide +kernel))) (by decide +kernel)) ⟨rfl, by decide +kernel, by decide +kernel, by decide +kernel⟩
def rm_X11_bears : Room := { frames := 9, cells := 0, slots := 0, locals := 209 }
def k_X11_bears_69 (τ : gτ) (n : Nat) (x0 : Nat) (x1 : Int32) (x2 : Int32) (x3 : Int32) (x4 : Int32) (s0 : Nat) (s1 : Int32) (G : gG) : Option (Int32 × gG) :=
  gBind2 (f_X11_throwsIf s0 s1 (2 : Int32) G) fun v9 G10 =>
  if v9 = 0 then (gBind2 (f_X11_bearsBy τ n x0 x1 x2 x3 x4 G10) fun v11 G12 =>
  some (v11, G12))
  else (some (0, G10))
def k_X11_bears_64 (τ : gτ) (n : Nat) (x0 : Nat) (x1 : Int32) (x2 : Int32) (x3 : Int32) (x4 : Int32) (s0 : Nat) (G : gG) : Option (Int32 × gG) :=
  k_X11_bears_69 τ n x0 x1 x2 x3 x4 s0 (1 : Int32) G
def k_X11_bears_35 (τ : gτ) (n : Nat) (x0 : Nat) (x1 : Int32) (x2 : Int32) (x3 : Int32) (x4 : Int32) (s0 : Nat) (s1 : Int32) (G : gG) : Option (Int32 × gG) :=
  gBind2 (f_X11_throwsIf s0 s1 (1 : Int32) G) fun v5 G6 =>
  if v5 = 0 then ((f_X11_areTwo x1 x2 x3).bind fun v7 =>
  if v7 = 0 then ((f_X11_in x4 (1 : Int32) (400 : Int32)).bind fun v8 =>
  if v8 = 0 then (k_X11_bears_64 τ n x0 x1 x2 x3 x4 x0 G6)
  else (k_X11_bears_69 τ n x0 x1 x2 x3 x4 x0 (0 : Int32) G6))
  else (k_X11_bears_64 τ n x0 x1 x2 x3 x4 x0 G6))
  else (some (0, G6))
def k_X11_bears_30 (τ : gτ) (n : Nat) (x0 : Nat) (x1 : Int32) (x2 : Int32) (x3 : Int32) (x4 : Int32) (s0 : Nat) (G : gG) : Option (Int32 × gG) :=
  k_X11_bears_35 τ n x0 x1 x2 x3 x4 s0 (1 : Int32) G
def f_X11_bears (τ : gτ) (n : Nat) (x0 : Nat) (x1 : Int32) (x2 : Int32) (x3 : Int32) (x4 : Int32) (G : gG) : Option (Int32 × gG) :=
  gLet (gsi G 11 0 x0 (0 : Int32)) fun G1 =>
  (f_X11_noYarn τ x0 x1 G1).bind fun v2 =>
  if v2 = 0 then ((f_X11_noYarn τ x0 x2 G1).bind fun v3 =>
  if v3 = 0 then ((f_X11_noYarn τ x0 x3 G1).bind fun v4 =>
  if v4 = 0 then (k_X11_bears_35 τ n x0 x1 x2 x3 x4 x0 (0 : Int32) G1)
  else (k_X11_bears_30 τ n x0 x1 x2 x3 x4 x0 G1))
  else (k_X11_bears_30 τ n x0 x1 x2 x3 x4 x0 G1))
  else (k_X11_bears_30 τ n x0 x1 x2 x3 x4 x0 G1)
set_option maxHeartbeats 4000000 in
set_option maxRecDepth 100000 in
theorem w_X11_bears_69 {X : gX} {τ : gτ} {p : Program} {l : Launch} {e : Env} {s : State} {m : MethodId} {args : Array Value} {below : List Frame} {meth : Method} {c : Code} (fx : gFx X p s m args meth c cX11_bears 5 RX11) (n : Nat) (x0 : Nat) (x1 : Int32) (x2 : Int32) (x3 : Int32) (x4 : Int32) (s0 : Nat) (s1 : Int32) (h0 : gK τ x0 11) (hs0 : gK τ s0 11) (hr : meth.sig.returnType = (some .int)) {r : Int32} {G' : gG} {G : gG} {H : Heap} {locs : List Loc} {ls : Array Slot} (hw : gHw X τ G H locs) (hl : lv_has ls 5 [(0, .ref x0), (1, .int x1), (2, .int x2), (3, .int x3), (4, .int x4)]) (hok : gOk (k_X11_bears_69 τ n x0 x1 x2 x3 x4 s0 s1 G) (fun q => q = (r, G')))  : W p l e rm_X11_bears s m args below meth c H locs 0 0 (MQ below (gQ X τ (some (.int r)) G') args s 0 0 (gFree X)) (F0 m 69 ls [.int s1, .ref s0]) := by
  unfold k_X11_bears_69 at hok
  refine lv_iconst (v := 2) fx.1 fx.2.1 dX11_bears_69 (by decide) ?_
  obtain ⟨v9, G10, hf, hok⟩ := gOk_bind2 hok
  refine g_callV0 (κ := 11) fx hw (c_X11_throwsIf l X τ s0 s1 (2 : Int32) G hs0 hf) lv_RX11_263 ⟨rfl, rfl⟩ rfl rfl hs0 rfl hl.1 rfl ⟨Nat.le_of_ble_eq_true rfl, Nat.le_of_ble_eq_true rfl⟩ (Nat.le_of_ble_eq_true rfl) ⟨Nat.le_of_ble_eq_true rfl, Nat.le_of_ble_eq_true rfl⟩ dX11_bears_70 (fun H locs hw => ?_)
  refine g_if_eq (tgt := 78) fx dX11_bears_73 (by decide) hok (fun hok => ?_) (fun hok => ?_)
  · refine lv_aload_n fx.1 fx.2.1 dX11_bears_78 rfl (lv_at hl 0 rfl) ?_
    refine lv_iload_n fx.1 fx.2.1 dX11_bears_79 rfl (lv_at hl 1 rfl) ?_
    refine lv_iload_n fx.1 fx.2.1 dX11_bears_80 rfl (lv_at hl 2 rfl) ?_
    refine lv_iload_n fx.1 fx.2.1 dX11_bears_81 rfl (lv_at hl 3 rfl) ?_
    refine lv_iload fx.1 fx.2.1 dX11_bears_82 (lv_at hl 4 rfl) ?_
    obtain ⟨v11, G12, hf, hok⟩ := gOk_bind2 hok
    refine g_callV0 (κ := 11) fx hw (c_X11_bearsBy l X τ n x0 x1 x2 x3 x4 G10 h0 hf) lv_RX11_342 ⟨rfl, rfl⟩ rfl rfl h0 rfl hl.1 rfl ⟨Nat.le_of_ble_eq_true rfl, Nat.le_of_ble_eq_true rfl⟩ (Nat.le_of_ble_eq_true rfl) ⟨Nat.le_of_ble_eq_true rfl, Nat.le_of_ble_eq_true rfl⟩ dX11_bears_84 (fun H locs hw => ?_)
    cases gOk_some hok
    exact g_iret fx hw hr dX11_bears_87
  · refine lv_iconst (v := 0) fx.1 fx.2.1 dX11_bears_76 (by decide) ?_
    cases gOk_some hok
    exact g_iret fx hw hr dX11_bears_77
set_option maxHeartbeats 4000000 in
set_option maxRecDepth 100000 in
theorem w_X11_bears_64 {X : gX} {τ : gτ} {p : Program} {l : Launch} {e : Env} {s : State} {m : MethodId} {args : Array Value} {below : List Frame} {meth : Method} {c : Code} (fx : gFx X p s m args meth c cX11_bears 5 RX11) (n : Nat) (x0 : Nat) (x1 : Int32) (x2 : Int32) (x3 : Int32) (x4 : Int32) (s0 : Nat) (h0 : gK τ x0 11) (hs0 : gK τ s0 11) (hr : meth.sig.returnType = (some .int)) {r : Int32} {G' : gG} {G : gG} {H : Heap} {locs : List Loc} {ls : Array Slot} (hw : gHw X τ G H locs) (hl : lv_has ls 5 [(0, .ref x0), (1, .int x1), (2, .int x2), (3, .int x3), (4, .int x4)]) (hok : gOk (k_X11_bears_64 τ n x0 x1 x2 x3 x4 s0 G) (fun q => q = (r, G')))  : W p l e rm_X11_bears s m args below meth c H locs 0 0 (MQ below (gQ X τ (some (.int r)) G') args s 0 0 (gFree X)) (F0 m 64 ls [.ref s0]) := by
  unfold k_X11_bears_64 at hok
  refine lv_iconst (v := 1) fx.1 fx.2.1 dX11_bears_64 (by decide) ?_
  refine lv_goto (tgt := 69) fx.1 fx.2.1 dX11_bears_65 (by decide) ?_
  exact w_X11_bears_69 fx n x0 x1 x2 x3 x4 s0 (1 : Int32) h0 hs0 hr hw (lv_sub hl [0, 1, 2, 3, 4] rfl) hok
set_option maxHeartbeats 4000000 in
set_option maxRecDepth 100000 in
theorem w_X11_bears_35 {X : gX} {τ : gτ} {p : Program} {l : Launch} {e : Env} {s : State} {m : MethodId} {args : Array Value} {below : List Frame} {meth : Method} {c : Code} (fx : gFx X p s m args meth c cX11_bears 5 RX11) (n : Nat) (x0 : Nat) (x1 : Int32) (x2 : Int32) (x3 : Int32) (x4 : Int32) (s0 : Nat) (s1 : Int32) (h0 : gK τ x0 11) (hs0 : gK τ s0 11) (hr : meth.sig.returnType = (some .int)) {r : Int32} {G' : gG} {G : gG} {H : Heap} {locs : List Loc} {ls : Array Slot} (hw : gHw X τ G H locs) (hl : lv_has ls 5 [(0, .ref x0), (1, .int x1), (2, .int x2), (3, .int x3), (4, .int x4)]) (hok : gOk (k_X11_bears_35 τ n x0 x1 x2 x3 x4 s0 s1 G) (fun q => q = (r, G')))  : W p l e rm_X11_bears s m args below meth c H locs 0 0 (MQ below (gQ X τ (some (.int r)) G') args s 0 0 (gFree X)) (F0 m 35 ls [.int s1, .ref s0]) := by
  unfold k_X11_bears_35 at hok
  refine lv_iconst (v := 1) fx.1 fx.2.1 dX11_bears_35 (by decide) ?_
  obtain ⟨v5, G6, hf, hok⟩ := gOk_bind2 hok
  refine g_callV0 (κ := 11) fx hw (c_X11_throwsIf l X τ s0 s1 (1 : Int32) G hs0 hf) lv_RX11_263 ⟨rfl, rfl⟩ rfl rfl hs0 rfl hl.1 rfl ⟨Nat.le_of_ble_eq_true rfl, Nat.le_of_ble_eq_true rfl⟩ (Nat.le_of_ble_eq_true rfl) ⟨Nat.le_of_ble_eq_true rfl, Nat.le_of_ble_eq_true rfl⟩ dX11_bears_36 (fun H locs hw => ?_)
  refine g_if_ne (tgt := 76) fx dX11_bears_39 (by decide) hok (fun hok => ?_) (fun hok => ?_)
  · refine lv_aload_n fx.1 fx.2.1 dX11_bears_42 rfl (lv_at hl 0 rfl) ?_
    refine lv_iload_n fx.1 fx.2.1 dX11_bears_43 rfl (lv_at hl 1 rfl) ?_
    refine lv_iload_n fx.1 fx.2.1 dX11_bears_44 rfl (lv_at hl 2 rfl) ?_
    refine lv_iload_n fx.1 fx.2.1 dX11_bears_45 rfl (lv_at hl 3 rfl) ?_
    obtain ⟨v7, hf, hok⟩ := gOk_bind hok
    refine g_callS0 fx hw (c_X11_areTwo l X τ x1 x2 x3 G6  hf) ls_RX11_339 ⟨rfl, rfl⟩ rfl hl.1 rfl ⟨Nat.le_of_ble_eq_true rfl, Nat.le_of_ble_eq_true rfl⟩ (Nat.le_of_ble_eq_true rfl) ⟨Nat.le_of_ble_eq_true rfl, Nat.le_of_ble_eq_true rfl⟩ dX11_bears_46 (fun H locs hw => ?_)
    refine g_if_ne (tgt := 64) fx dX11_bears_49 (by decide) hok (fun hok => ?_) (fun hok => ?_)
    · refine lv_iload fx.1 fx.2.1 dX11_bears_52 (lv_at hl 4 rfl) ?_
      refine lv_iconst (v := 1) fx.1 fx.2.1 dX11_bears_54 (by decide) ?_
      refine lv_sipush (v := 400) fx.1 fx.2.1 dX11_bears_55 (by decide) ?_
      obtain ⟨v8, hf, hok⟩ := gOk_bind hok
      refine g_callS0 fx hw (c_X11_in l X τ x4 (1 : Int32) (400 : Int32) G6  hf) ls_RX11_69 ⟨rfl, rfl⟩ rfl hl.1 rfl ⟨Nat.le_of_ble_eq_true rfl, Nat.le_of_ble_eq_true rfl⟩ (Nat.le_of_ble_eq_true rfl) ⟨Nat.le_of_ble_eq_true rfl, Nat.le_of_ble_eq_true rfl⟩ dX11_bears_58 (fun H locs hw => ?_)
      refine g_if_ne (tgt := 68) fx dX11_bears_61 (by decide) hok (fun hok => ?_) (fun hok => ?_)
      · exact w_X11_bears_64 fx n x0 x1 x2 x3 x4 x0 h0 h0 hr hw (lv_sub hl [0, 1, 2, 3, 4] rfl) hok
      · refine lv_iconst (v := 0) fx.1 fx.2.1 dX11_bears_68 (by decide) ?_
        exact w_X11_bears_69 fx n x0 x1 x2 x3 x4 x0 (0 : Int32) h0 h0 hr hw (lv_sub hl [0, 1, 2, 3, 4] rfl) hok
    · exact w_X11_bears_64 fx n x0 x1 x2 x3 x4 x0 h0 h0 hr hw (lv_sub hl [0, 1, 2, 3, 4] rfl) hok
  · refine lv_iconst (v := 0) fx.1 fx.2.1 dX11_bears_76 (by decide) ?_
    cases gOk_some hok
    exact g_iret fx hw hr dX11_bears_77
set_option maxHeartbeats 4000000 in
set_option maxRecDepth 100000 in
theorem w_X11_bears_30 {X : gX} {τ : gτ} {p : Program} {l : Launch} {e : Env} {s : State} {m : MethodId} {args : Array Value} {below : List Frame} {meth : Method} {c : Code} (fx : gFx X p s m args meth c cX11_bears 5 RX11) (n : Nat) (x0 : Nat) (x1 : Int32) (x2 : Int32) (x3 : Int32) (x4 : Int32) (s0 : Nat) (h0 : gK τ x0 11) (hs0 : gK τ s0 11) (hr : meth.sig.returnType = (some .int)) {r : Int32} {G' : gG} {G : gG} {H : Heap} {locs : List Loc} {ls : Array Slot} (hw : gHw X τ G H locs) (hl : lv_has ls 5 [(0, .ref x0), (1, .int x1), (2, .int x2), (3, .int x3), (4, .int x4)]) (hok : gOk (k_X11_bears_30 τ n x0 x1 x2 x3 x4 s0 G) (fun q => q = (r, G')))  : W p l e rm_X11_bears s m args below meth c H locs 0 0 (MQ below (gQ X τ (some (.int r)) G') args s 0 0 (gFree X)) (F0 m 30 ls [.ref s0]) := by
  unfold k_X11_bears_30 at hok
  refine lv_iconst (v := 1) fx.1 fx.2.1 dX11_bears_30 (by decide) ?_
  refine lv_goto (tgt := 35) fx.1 fx.2.1 dX11_bears_31 (by decide) ?_
  exact w_X11_bears_35 fx n x0 x1 x2 x3 x4 s0 (1 : Int32) h0 hs0 hr hw (lv_sub hl [0, 1, 2, 3, 4] rfl) hok
set_option maxHeartbeats 4000000 in
set_option maxRecDepth 100000 in
theorem c_X11_bears (l : Launch) (X : gX) (τ : gτ) (n : Nat) (x0 : Nat) (x1 : Int32) (x2 : Int32) (x3 : Int32) (x4 : Int32) (G : gG) (h0 : gK τ x0 11) {r : Int32} {G' : gG} (h : f_X11_bears τ n x0 x1 x2 x3 x4 G = some (r, G')) : gM l X τ yX11_bears cX11_bears 5 (some .int) rm_X11_bears [.ref x0, .int x1, .int x2, .int x3, .int x4] G (some (.int r)) G' := by
  refine g_body (by decide +kernel) (Nat.le_of_ble_eq_true rfl) ?_
  intro p e s m args below meth c ls fx hr hw hl
  have fx : gFx X p s m args meth c cX11_bears 5 RX11 := fx
  have hl : lv_has ls 5 [(0, .ref x0), (1, .int x1), (2, .int x2), (3, .int x3), (4, .int x4)] := hl
  have hok : gOk (f_X11_bears τ n x0 x1 x2 x3 x4 G) (fun q => q = (r, G')) := ⟨_, h, rfl⟩
  unfold f_X11_bears at hok
  show W p l e rm_X11_bears s m args below meth c s.heap [] 0 0 (MQ below (gQ X τ (some (.int r)) G') args s 0 0 (gFree X)) _
  refine lv_aload_n fx.1 fx.2.1 dX11_bears_0 rfl (lv_at hl 0 rfl) ?_
  refine lv_iconst (v := 0) fx.1 fx.2.1 dX11_bears_1 (by decide) ?_
  refine g_puti fx hw h0 lp_RX11_3 rfl rfl dX11_bears_2 hok (fun G1 H locs hw hok => ?_)
  refine lv_aload_n fx.1 fx.2.1 dX11_bears_5 rfl (lv_at hl 0 rfl) ?_
  refine lv_aload_n fx.1 fx.2.1 dX11_bears_6 rfl (lv_at hl 0 rfl) ?_
  refine lv_iload_n fx.1 fx.2.1 dX11_bears_7 rfl (lv_at hl 1 rfl) ?_
  obtain ⟨v2, hf, hok⟩ := gOk_bind hok
  refine g_callV0 (κ := 11) fx hw (c_X11_noYarn l X τ x0 x1 G1 h0 hf) lv_RX11_315 ⟨rfl, rfl⟩ rfl rfl h0 rfl hl.1 rfl ⟨Nat.le_of_ble_eq_true rfl, Nat.le_of_ble_eq_true rfl⟩ (Nat.le_of_ble_eq_true rfl) ⟨Nat.le_of_ble_eq_true rfl, Nat.le_of_ble_eq_true rfl⟩ dX11_bears_8 (fun H locs hw => ?_)
  refine g_if_ne (tgt := 30) fx dX11_bears_11 (by decide) hok (fun hok => ?_) (fun hok => ?_)
  · refine lv_aload_n fx.1 fx.2.1 dX11_bears_14 rfl (lv_at hl 0 rfl) ?_
    refine lv_iload_n fx.1 fx.2.1 dX11_bears_15 rfl (lv_at hl 2 rfl) ?_
    obtain ⟨v3, hf, hok⟩ := gOk_bind hok
    refine g_callV0 (κ := 11) fx hw (c_X11_noYarn l X τ x0 x2 G1 h0 hf) lv_RX11_315 ⟨rfl, rfl⟩ rfl rfl h0 rfl hl.1 rfl ⟨Nat.le_of_ble_eq_true rfl, Nat.le_of_ble_eq_true rfl⟩ (Nat.le_of_ble_eq_true rfl) ⟨Nat.le_of_ble_eq_true rfl, Nat.le_of_ble_eq_true rfl⟩ dX11_bears_16 (fun H locs hw => ?_)
    refine g_if_ne (tgt := 30) fx dX11_bears_19 (by decide) hok (fun hok => ?_) (fun hok => ?_)
    · refine lv_aload_n fx.1 fx.2.1 dX11_bears_22 rfl (lv_at hl 0 rfl) ?_
      refine lv_iload_n fx.1 fx.2.1 dX11_bears_23 rfl (lv_at hl 3 rfl) ?_
      obtain ⟨v4, hf, hok⟩ := gOk_bind hok
      refine g_callV0 (κ := 11) fx hw (c_X11_noYarn l X τ x0 x3 G1 h0 hf) lv_RX11_315 ⟨rfl, rfl⟩ rfl rfl h0 rfl hl.1 rfl ⟨Nat.le_of_ble_eq_true rfl, Nat.le_of_ble_eq_true rfl⟩ (Nat.le_of_ble_eq_true rfl) ⟨Nat.le_of_ble_eq_true rfl, Nat.le_of_ble_eq_true rfl⟩ dX11_bears_24 (fun H locs hw => ?_)
      refine g_if_eq (tgt := 34) fx dX11_bears_27 (by decide) hok (fun hok => ?_) (fun hok => ?_)
      · refine lv_iconst (v := 0) fx.1 fx.2.1 dX11_bears_34 (by decide) ?_
        exact w_X11_bears_35 fx n x0 x1 x2 x3 x4 x0 (0 : Int32) h0 h0 hr hw (lv_sub hl [0, 1, 2, 3, 4] rfl) hok
      · exact w_X11_bears_30 fx n x0 x1 x2 x3 x4 x0 h0 h0 hr hw (lv_sub hl [0, 1, 2, 3, 4] rfl) hok
    · exact w_X11_bears_30 fx n x0 x1 x2 x3 x4 x0 h0 h0 hr hw (lv_sub hl [0, 1, 2, 3, 4] rfl) hok
  · exact w_X11_bears_30 fx n x0 x1 x2 x3 x4 x0 h0 h0 hr hw (lv_sub hl [0, 1, 2, 3, 4] rfl) hok
theorem dX11_lay_0 : decode cX11_lay 0 = .ok (.aload_n 0, 1) := by decide +kernel
theorem dX11_lay_1 : decode cX11_lay 1 = .ok (.iconst 0, 1) := by decide +kernel
theorem dX11_lay_2 : decode cX11_lay 2 = .ok (.putfield 3, 3) := by decide +kernel
theorem dX11_lay_5 : decode cX11_lay 5 = .ok (.aload_n 0, 1) := by decide +kernel
theorem dX11_lay_6 : decode cX11_lay 6 = .ok (.aload_n 0, 1) := by decide +kernel
theorem dX11_lay_7 : decode cX11_lay 7 = .ok (.iload_n 1, 1) := by decide +kernel
theorem dX11_lay_8 : decode cX11_lay 8 = .ok (.invokevirtual 315, 3) := by decide +kernel
theorem dX11_lay_11 : decode cX11_lay 11 = .ok (.ifCond .ne 19, 3) := by decide +kernel
theorem dX11_lay_14 : decode cX11_lay 14 = .ok (.aload_n 0, 1) := by decide +kernel
theorem dX11_lay_15 : decode cX11_lay 15 = .ok (.iload_n 2, 1) := by decide +kernel
theorem dX11_lay_16 : decode cX11_lay 16 = .ok (.invokevirtual 315, 3) := by decide +kernel
theorem dX11_lay_19 : decode cX11_lay 19 = .ok (.ifCond .ne 11, 3) := by decide +kernel
theorem dX11_lay_22 : decode cX11_lay 22 = .ok (.aload_n 0, 1) := by decide +kernel
theorem dX11_lay_23 : decode cX11_lay 23 = .ok (.iload_n 3, 1) := by decide +kernel
theorem dX11_lay_24 : decode cX11_lay 24 = .ok (.invokevirtual 315, 3) := by decide +kernel
theorem dX11_lay_27 : decode cX11_lay 27 = .ok (.ifCond .eq 7, 3) := by decide +kernel
theorem dX11_lay_30 : decode cX11_lay 30 = .ok (.iconst 1, 1) := by decide +kernel
theorem dX11_lay_31 : decode cX11_lay 31 = .ok (.goto 4, 3) := by decide +kernel
theorem dX11_lay_34 : decode cX11_lay 34 = .ok (.iconst 0, 1) := by decide +kernel
theorem dX11_lay_35 : decode cX11_lay 35 = .ok (.iconst 1, 1) := by decide +kernel
theorem dX11_lay_36 : decode cX11_lay 36 = .ok (.invokevirtual 263, 3) := by decide +kernel
theorem dX11_lay_39 : decode cX11_lay 39 = .ok (.ifCond .ne 37, 3) := by decide +kernel
theorem dX11_lay_42 : decode cX11_lay 42 = .ok (.aload_n 0, 1) := by decide +kernel
theorem dX11_lay_43 : decode cX11_lay 43 = .ok (.iload_n 1, 1) := by decide +kernel
theorem dX11_lay_44 : decode cX11_lay 44 = .ok (.iload_n 2, 1) := by decide +kernel
theorem dX11_lay_45 : decode cX11_lay 45 = .ok (.iload_n 3, 1) := by decide +kernel
theorem dX11_lay_46 : decode cX11_lay 46 = .ok (.invokestatic 339, 3) := by decide +kernel
theorem dX11_lay_49 : decode cX11_lay 49 = .ok (.ifCond .ne 15, 3) := by decide +kernel
theorem dX11_lay_52 : decode cX11_lay 52 = .ok (.iload 4, 2) := by decide +kernel
theorem dX11_lay_54 : decode cX11_lay 54 = .ok (.iconst 1, 1) := by decide +kernel
theorem dX11_lay_55 : decode cX11_lay 55 = .ok (.sipush 200, 3) := by decide +kernel
theorem dX11_lay_58 : decode cX11_lay 58 = .ok (.invokestatic 69, 3) := by decide +kernel
theorem dX11_lay_61 : decode cX11_lay 61 = .ok (.ifCond .ne 7, 3) := by decide +kernel
theorem dX11_lay_64 : decode cX11_lay 64 = .ok (.iconst 1, 1) := by decide +kernel
theorem dX11_lay_65 : decode cX11_lay 65 = .ok (.goto 4, 3) := by decide +kernel
theorem dX11_lay_68 : decode cX11_lay 68 = .ok (.iconst 0, 1) := by decide +kernel
theorem dX11_lay_69 : decode cX11_lay 69 = .ok (.iconst 2, 1) := by decide +kernel
theorem dX11_lay_70 : decode cX11_lay 70 = .ok (.invokevirtual 263, 3) := by decide +kernel
theorem dX11_lay_73 : decode cX11_lay 73 = .ok (.ifCond .eq 5, 3) := by decide +kernel
theorem dX11_lay_76 : decode cX11_lay 76 = .ok (.iconst 0, 1) := by decide +kernel
theorem dX11_lay_77 : decode cX11_lay 77 = .ok (.ireturn, 1) := by decide +kernel
theorem dX11_lay_78 : decode cX11_lay 78 = .ok (.aload_n 0, 1) := by decide +kernel
theorem dX11_lay_79 : decode cX11_lay 79 = .ok (.iload_n 1, 1) := by decide +kernel
theorem dX11_lay_80 : decode cX11_lay 80 = .ok (.iconst 1, 1) := by decide +kernel
theorem dX11_lay_81 : decode cX11_lay 81 = .ok (.invokevirtual 132, 3) := by decide +kernel
theorem dX11_lay_84 : decode cX11_lay 84 = .ok (.aload_n 0, 1) := by decide +kernel
theorem dX11_lay_85 : decode cX11_lay 85 = .ok (.iload_n 2, 1) := by decide +kernel
theorem dX11_lay_86 : decode cX11_lay 86 = .ok (.iconst 1, 1) := by decide +kernel
theorem dX11_lay_87 : decode cX11_lay 87 = .ok (.invokevirtual 132, 3) := by decide +kernel
theorem dX11_lay_90 : decode cX11_lay 90 = .ok (.aload_n 0, 1) := by decide +kernel
theorem dX11_lay_91 : decode cX11_lay 91 = .ok (.iload_n 3, 1) := by decide +kernel
theorem dX11_lay_92 : decode cX11_lay 92 = .ok (.iconst 1, 1) := by decide +kernel
theorem dX11_lay_93 : decode cX11_lay 93 = .ok (.invokevirtual 132, 3) := by decide +kernel
theorem dX11_lay_96 : decode cX11_lay 96 = .ok (.invokestatic 135, 3) := by decide +kernel
theorem dX11_lay_99 : decode cX11_lay 99 = .ok (.invokestatic 135, 3) := by decide +kernel
theorem dX11_lay_102 : decode cX11_lay 102 = .ok (.istore 5, 2) := by decide +kernel
theorem dX11_lay_104 : decode cX11_lay 104 = .ok (.aload_n 0, 1) := by decide +kernel
theorem dX11_lay_105 : decode cX11_lay 105 = .ok (.iload 5, 2) := by decide +kernel
theorem dX11_lay_107 : decode cX11_lay 107 = .ok (.iload 4, 2) := by decide +kernel
theorem dX11_lay_109 : decode cX11_lay 109 = .ok (.if_icmp .ge 7, 3) := by decide +kernel
theorem dX11_lay_112 : decode cX11_lay 112 = .ok (.iconst 1, 1) := by decide +kernel
theorem dX11_lay_113 : decode cX11_lay 113 = .ok (.goto 4, 3) := by decide +kernel
theorem dX11_lay_116 : decode cX11_lay 116 = .ok (.iconst 0, 1) := by decide +kernel
theorem dX11_lay_117 : decode cX11_lay 117 = .ok (.iconst 3, 1) := by decide +kernel
theorem dX11_lay_118 : decode cX11_lay 118 = .ok (.invokevirtual 263, 3) := by decide +kernel
theorem dX11_lay_121 : decode cX11_lay 121 = .ok (.ifCond .ne 25, 3) := by decide +kernel
theorem dX11_lay_124 : decode cX11_lay 124 = .ok (.aload_n 0, 1) := by decide +kernel
theorem dX11_lay_125 : decode cX11_lay 125 = .ok (.aload_n 0, 1) := by decide +kernel
theorem dX11_lay_126 : decode cX11_lay 126 = .ok (.invokevirtual 73, 3) := by decide +kernel
theorem dX11_lay_129 : decode cX11_lay 129 = .ok (.bipush 8, 2) := by decide +kernel
theorem dX11_lay_131 : decode cX11_lay 131 = .ok (.if_icmp .ne 7, 3) := by decide +kernel
theorem dX11_lay_134 : decode cX11_lay 134 = .ok (.iconst 1, 1) := by decide +kernel
theorem dX11_lay_135 : decode cX11_lay 135 = .ok (.goto 4, 3) := by decide +kernel
theorem dX11_lay_138 : decode cX11_lay 138 = .ok (.iconst 0, 1) := by decide +kernel
theorem dX11_lay_139 : decode cX11_lay 139 = .ok (.iconst 4, 1) := by decide +kernel
theorem dX11_lay_140 : decode cX11_lay 140 = .ok (.invokevirtual 263, 3) := by decide +kernel
theorem dX11_lay_143 : decode cX11_lay 143 = .ok (.ifCond .eq 5, 3) := by decide +kernel
theorem dX11_lay_146 : decode cX11_lay 146 = .ok (.iconst 0, 1) := by decide +kernel
theorem dX11_lay_147 : decode cX11_lay 147 = .ok (.ireturn, 1) := by decide +kernel
theorem dX11_lay_148 : decode cX11_lay 148 = .ok (.aload_n 0, 1) := by decide +kernel
theorem dX11_lay_149 : decode cX11_lay 149 = .ok (.invokevirtual 346, 3) := by decide +kernel
theorem dX11_lay_152 : decode cX11_lay 152 = .ok (.aload_n 0, 1) := by decide +kernel
theorem dX11_lay_153 : decode cX11_lay 153 = .ok (.iload_n 1, 1) := by decide +kernel
theorem dX11_lay_154 : decode cX11_lay 154 = .ok (.iload_n 2, 1) := by decide +kernel
theorem dX11_lay_155 : decode cX11_lay 155 = .ok (.iload_n 3, 1) := by decide +kernel
theorem dX11_lay_156 : decode cX11_lay 156 = .ok (.iload 4, 2) := by decide +kernel
theorem dX11_lay_158 : decode cX11_lay 158 = .ok (.invokevirtual 140, 3) := by decide +kernel
theorem dX11_lay_161 : decode cX11_lay 161 = .ok (.aload_n 0, 1) := by decide +kernel
theorem dX11_lay_162 : decode cX11_lay 162 = .ok (.invokevirtual 73, 3) := by decide +kernel
theorem dX11_lay_165 : decode cX11_lay 165 = .ok (.iconst 1, 1) := by decide +kernel
theorem dX11_lay_166 : decode cX11_lay 166 = .ok (.isub, 1) := by decide +kernel
theorem dX11_lay_167 : decode cX11_lay 167 = .ok (.ireturn, 1) := by decide +kernel
theorem lv_RX11_346 : gLv RX11 346 RX11 yX11_remembers cX11_remembers 2 none 0 := gLv_of (wA_t (wt8 (List.mem_of_getElem? (i := 113) (by decide +kernel))) (by decide +kernel)) (wA_t (wt8 (List.mem_of_getElem? (i := 115) (by decide +kernel))) (by decide +kernel)) (wA_of (List.mem_append_left _ (List.mem_map.mpr ⟨(⟨"YearRopeModel", "remembers", "()V"⟩, 20), wp7 (List.mem_of_getElem? (i := 1) (by decide +kernel)), rfl⟩)) (by decide +kernel)) (wA_t (wt1 (List.mem_of_getElem? (i := 12) (by decide +kernel))) (by decide +kernel)) (wA_t (wt8 (List.mem_of_getElem? (i := 116) (by decide +kernel))) (by decide +kernel)) ⟨rfl, by decide +kernel, by decide +kernel, by decide +kernel⟩
def rm_X11_lay : Room := { frames := 3, cells := 0, slots := 0, locals := 72 }
def k_X11_lay_139 (τ : gτ) (n : Nat) (x0 : Nat) (x1 : Int32) (x2 : Int32) (x3 : Int32) (x4 : Int32) (s0 : Nat) (s1 : Int32) (G : gG) : Option (Int32 × gG) :=
  gBind2 (f_X11_throwsIf s0 s1 (4 : Int32) G) fun v18 G19 =>
  if v18 = 0 then ((f_X11_remembers τ n x0 G19).bind fun G20 =>
  (f_X11_takes τ n x0 x1 x2 x3 x4 G20).bind fun G21 =>
  (f_X11_ropes τ x0 G21).bind fun v22 =>
  some (v22 - (1 : Int32), G21))
  else (some (0, G19))
def k_X11_lay_117 (τ : gτ) (n : Nat) (x0 : Nat) (x1 : Int32) (x2 : Int32) (x3 : Int32) (x4 : Int32) (s0 : Nat) (s1 : Int32) (G : gG) : Option (Int32 × gG) :=
  gBind2 (f_X11_throwsIf s0 s1 (3 : Int32) G) fun v15 G16 =>
  if v15 = 0 then ((f_X11_ropes τ x0 G16).bind fun v17 =>
  if v17 = (8 : Int32) then (k_X11_lay_139 τ n x0 x1 x2 x3 x4 x0 (1 : Int32) G16)
  else (k_X11_lay_139 τ n x0 x1 x2 x3 x4 x0 (0 : Int32) G16))
  else (some (0, G16))
def k_X11_lay_69 (τ : gτ) (n : Nat) (x0 : Nat) (x1 : Int32) (x2 : Int32) (x3 : Int32) (x4 : Int32) (s0 : Nat) (s1 : Int32) (G : gG) : Option (Int32 × gG) :=
  gBind2 (f_X11_throwsIf s0 s1 (2 : Int32) G) fun v9 G10 =>
  if v9 = 0 then ((f_X11_ofYarn τ x0 x1 (1 : Int32) G10).bind fun v11 =>
  (f_X11_ofYarn τ x0 x2 (1 : Int32) G10).bind fun v12 =>
  (f_X11_ofYarn τ x0 x3 (1 : Int32) G10).bind fun v13 =>
  gLet (gmin v11 (gmin v12 v13)) fun v14 =>
  if x4 ≤ v14 then (k_X11_lay_117 τ n x0 x1 x2 x3 x4 x0 (0 : Int32) G10)
  else (k_X11_lay_117 τ n x0 x1 x2 x3 x4 x0 (1 : Int32) G10))
  else (some (0, G10))
def k_X11_lay_64 (τ : gτ) (n : Nat) (x0 : Nat) (x1 : Int32) (x2 : Int32) (x3 : Int32) (x4 : Int32) (s0 : Nat) (G : gG) : Option (Int32 × gG) :=
  k_X11_lay_69 τ n x0 x1 x2 x3 x4 s0 (1 : Int32) G
def k_X11_lay_35 (τ : gτ) (n : Nat) (x0 : Nat) (x1 : Int32) (x2 : Int32) (x3 : Int32) (x4 : Int32) (s0 : Nat) (s1 : Int32) (G : gG) : Option (Int32 × gG) :=
  gBind2 (f_X11_throwsIf s0 s1 (1 : Int32) G) fun v5 G6 =>
  if v5 = 0 then ((f_X11_areTwo x1 x2 x3).bind fun v7 =>
  if v7 = 0 then ((f_X11_in x4 (1 : Int32) (200 : Int32)).bind fun v8 =>
  if v8 = 0 then (k_X11_lay_64 τ n x0 x1 x2 x3 x4 x0 G6)
  else (k_X11_lay_69 τ n x0 x1 x2 x3 x4 x0 (0 : Int32) G6))
  else (k_X11_lay_64 τ n x0 x1 x2 x3 x4 x0 G6))
  else (some (0, G6))
def k_X11_lay_30 (τ : gτ) (n : Nat) (x0 : Nat) (x1 : Int32) (x2 : Int32) (x3 : Int32) (x4 : Int32) (s0 : Nat) (G : gG) : Option (Int32 × gG) :=
  k_X11_lay_35 τ n x0 x1 x2 x3 x4 s0 (1 : Int32) G
def f_X11_lay (τ : gτ) (n : Nat) (x0 : Nat) (x1 : Int32) (x2 : Int32) (x3 : Int32) (x4 : Int32) (G : gG) : Option (Int32 × gG) :=
  gLet (gsi G 11 0 x0 (0 : Int32)) fun G1 =>
  (f_X11_noYarn τ x0 x1 G1).bind fun v2 =>
  if v2 = 0 then ((f_X11_noYarn τ x0 x2 G1).bind fun v3 =>
  if v3 = 0 then ((f_X11_noYarn τ x0 x3 G1).bind fun v4 =>
  if v4 = 0 then (k_X11_lay_35 τ n x0 x1 x2 x3 x4 x0 (0 : Int32) G1)
  else (k_X11_lay_30 τ n x0 x1 x2 x3 x4 x0 G1))
  else (k_X11_lay_30 τ n x0 x1 x2 x3 x4 x0 G1))
  else (k_X11_lay_30 τ n x0 x1 x2 x3 x4 x0 G1)
set_option maxHeartbeats 4000000 in
set_option maxRecDepth 100000 in
theorem w_X11_lay_139 {X : gX} {τ : gτ} {p : Program} {l : Launch} {e : Env} {s : State} {m : MethodId} {args : Array Value} {below : List Frame} {meth : Method} {c : Code} (fx : gFx X p s m args meth c cX11_lay 6 RX11) (n : Nat) (x0 : Nat) (x1 : Int32) (x2 : Int32) (x3 : Int32) (x4 : Int32) (s0 : Nat) (s1 : Int32) (h0 : gK τ x0 11) (hs0 : gK τ s0 11) (hr : meth.sig.returnType = (some .int)) {r : Int32} {G' : gG} {G : gG} {H : Heap} {locs : List Loc} {ls : Array Slot} (hw : gHw X τ G H locs) (hl : lv_has ls 6 [(0, .ref x0), (1, .int x1), (2, .int x2), (3, .int x3), (4, .int x4)]) (hok : gOk (k_X11_lay_139 τ n x0 x1 x2 x3 x4 s0 s1 G) (fun q => q = (r, G')))  : W p l e rm_X11_lay s m args below meth c H locs 0 0 (MQ below (gQ X τ (some (.int r)) G') args s 0 0 (gFree X)) (F0 m 139 ls [.int s1, .ref s0]) := by
  unfold k_X11_lay_139 at hok
  refine lv_iconst (v := 4) fx.1 fx.2.1 dX11_lay_139 (by decide) ?_
  obtain ⟨v18, G19, hf, hok⟩ := gOk_bind2 hok
  refine g_callV0 (κ := 11) fx hw (c_X11_throwsIf l X τ s0 s1 (4 : Int32) G hs0 hf) lv_RX11_263 ⟨rfl, rfl⟩ rfl rfl hs0 rfl hl.1 rfl ⟨Nat.le_of_ble_eq_true rfl, Nat.le_of_ble_eq_true rfl⟩ (Nat.le_of_ble_eq_true rfl) ⟨Nat.le_of_ble_eq_true rfl, Nat.le_of_ble_eq_true rfl⟩ dX11_lay_140 (fun H locs hw => ?_)
  refine g_if_eq (tgt := 148) fx dX11_lay_143 (by decide) hok (fun hok => ?_) (fun hok => ?_)
  · refine lv_aload_n fx.1 fx.2.1 dX11_lay_148 rfl (lv_at hl 0 rfl) ?_
    obtain ⟨G20, hf, hok⟩ := gOk_bind hok
    refine g_callV0 (κ := 11) fx hw (c_X11_remembers l X τ n x0 G19 h0 hf) lv_RX11_346 ⟨rfl, rfl⟩ rfl rfl h0 rfl hl.1 rfl ⟨Nat.le_of_ble_eq_true rfl, Nat.le_of_ble_eq_true rfl⟩ (Nat.le_of_ble_eq_true rfl) ⟨Nat.le_of_ble_eq_true rfl, Nat.le_of_ble_eq_true rfl⟩ dX11_lay_149 (fun H locs hw => ?_)
    refine lv_aload_n fx.1 fx.2.1 dX11_lay_152 rfl (lv_at hl 0 rfl) ?_
    refine lv_iload_n fx.1 fx.2.1 dX11_lay_153 rfl (lv_at hl 1 rfl) ?_
    refine lv_iload_n fx.1 fx.2.1 dX11_lay_154 rfl (lv_at hl 2 rfl) ?_
    refine lv_iload_n fx.1 fx.2.1 dX11_lay_155 rfl (lv_at hl 3 rfl) ?_
    refine lv_iload fx.1 fx.2.1 dX11_lay_156 (lv_at hl 4 rfl) ?_
    obtain ⟨G21, hf, hok⟩ := gOk_bind hok
    refine g_callV0 (κ := 11) fx hw (c_X11_takes l X τ n x0 x1 x2 x3 x4 G20 h0 hf) lv_RX11_140 ⟨rfl, rfl⟩ rfl rfl h0 rfl hl.1 rfl ⟨Nat.le_of_ble_eq_true rfl, Nat.le_of_ble_eq_true rfl⟩ (Nat.le_of_ble_eq_true rfl) ⟨Nat.le_of_ble_eq_true rfl, Nat.le_of_ble_eq_true rfl⟩ dX11_lay_158 (fun H locs hw => ?_)
    refine lv_aload_n fx.1 fx.2.1 dX11_lay_161 rfl (lv_at hl 0 rfl) ?_
    obtain ⟨v22, hf, hok⟩ := gOk_bind hok
    refine g_callV0 (κ := 11) fx hw (c_X11_ropes l X τ x0 G21 h0 hf) lv_RX11_73 ⟨rfl, rfl⟩ rfl rfl h0 rfl hl.1 rfl ⟨Nat.le_of_ble_eq_true rfl, Nat.le_of_ble_eq_true rfl⟩ (Nat.le_of_ble_eq_true rfl) ⟨Nat.le_of_ble_eq_true rfl, Nat.le_of_ble_eq_true rfl⟩ dX11_lay_162 (fun H locs hw => ?_)
    refine lv_iconst (v := 1) fx.1 fx.2.1 dX11_lay_165 (by decide) ?_
    refine lv_isub fx.1 fx.2.1 dX11_lay_166 ?_
    cases gOk_some hok
    exact g_iret fx hw hr dX11_lay_167
  · refine lv_iconst (v := 0) fx.1 fx.2.1 dX11_lay_146 (by decide) ?_
    cases gOk_some hok
    exact g_iret fx hw hr dX11_lay_147
set_option maxHeartbeats 4000000 in
set_option maxRecDepth 100000 in
theorem w_X11_lay_117 {X : gX} {τ : gτ} {p : Program} {l : Launch} {e : Env} {s : State} {m : MethodId} {args : Array Value} {below : List Frame} {meth : Method} {c : Code} (fx : gFx X p s m args meth c cX11_lay 6 RX11) (n : Nat) (x0 : Nat) (x1 : Int32) (x2 : Int32) (x3 : Int32) (x4 : Int32) (s0 : Nat) (s1 : Int32) (h0 : gK τ x0 11) (hs0 : gK τ s0 11) (hr : meth.sig.returnType = (some .int)) {r : Int32} {G' : gG} {G : gG} {H : Heap} {locs : List Loc} {ls : Array Slot} (hw : gHw X τ G H locs) (hl : lv_has ls 6 [(0, .ref x0), (1, .int x1), (2, .int x2), (3, .int x3), (4, .int x4)]) (hok : gOk (k_X11_lay_117 τ n x0 x1 x2 x3 x4 s0 s1 G) (fun q => q = (r, G')))  : W p l e rm_X11_lay s m args below meth c H locs 0 0 (MQ below (gQ X τ (some (.int r)) G') args s 0 0 (gFree X)) (F0 m 117 ls [.int s1, .ref s0]) := by
  unfold k_X11_lay_117 at hok
  refine lv_iconst (v := 3) fx.1 fx.2.1 dX11_lay_117 (by decide) ?_
  obtain ⟨v15, G16, hf, hok⟩ := gOk_bind2 hok
  refine g_callV0 (κ := 11) fx hw (c_X11_throwsIf l X τ s0 s1 (3 : Int32) G hs0 hf) lv_RX11_263 ⟨rfl, rfl⟩ rfl rfl hs0 rfl hl.1 rfl ⟨Nat.le_of_ble_eq_true rfl, Nat.le_of_ble_eq_true rfl⟩ (Nat.le_of_ble_eq_true rfl) ⟨Nat.le_of_ble_eq_true rfl, Nat.le_of_ble_eq_true rfl⟩ dX11_lay_118 (fun H locs hw => ?_)
  refine g_if_ne (tgt := 146) fx dX11_lay_121 (by decide) hok (fun hok => ?_) (fun hok => ?_)
  · refine lv_aload_n fx.1 fx.2.1 dX11_lay_124 rfl (lv_at hl 0 rfl) ?_
    refine lv_aload_n fx.1 fx.2.1 dX11_lay_125 rfl (lv_at hl 0 rfl) ?_
    obtain ⟨v17, hf, hok⟩ := gOk_bind hok
    refine g_callV0 (κ := 11) fx hw (c_X11_ropes l X τ x0 G16 h0 hf) lv_RX11_73 ⟨rfl, rfl⟩ rfl rfl h0 rfl hl.1 rfl ⟨Nat.le_of_ble_eq_true rfl, Nat.le_of_ble_eq_true rfl⟩ (Nat.le_of_ble_eq_true rfl) ⟨Nat.le_of_ble_eq_true rfl, Nat.le_of_ble_eq_true rfl⟩ dX11_lay_126 (fun H locs hw => ?_)
    refine lv_bipush (v := 8) fx.1 fx.2.1 dX11_lay_129 (by decide) ?_
    refine g_icmp_ne (tgt := 138) fx dX11_lay_131 (by decide) hok (fun hok => ?_) (fun hok => ?_)
    · refine lv_iconst (v := 1) fx.1 fx.2.1 dX11_lay_134 (by decide) ?_
      refine lv_goto (tgt := 139) fx.1 fx.2.1 dX11_lay_135 (by decide) ?_
      exact w_X11_lay_139 fx n x0 x1 x2 x3 x4 x0 (1 : Int32) h0 h0 hr hw (lv_sub hl [0, 1, 2, 3, 4] rfl) hok
    · refine lv_iconst (v := 0) fx.1 fx.2.1 dX11_lay_138 (by decide) ?_
      exact w_X11_lay_139 fx n x0 x1 x2 x3 x4 x0 (0 : Int32) h0 h0 hr hw (lv_sub hl [0, 1, 2, 3, 4] rfl) hok
  · refine lv_iconst (v := 0) fx.1 fx.2.1 dX11_lay_146 (by decide) ?_
    cases gOk_some hok
    exact g_iret fx hw hr dX11_lay_147
set_option maxHeartbeats 4000000 in
set_option maxRecDepth 100000 in
theorem w_X11_lay_69 {X : gX} {τ : gτ} {p : Program} {l : Launch} {e : Env} {s : State} {m : MethodId} {args : Array Value} {below : List Frame} {meth : Method} {c : Code} (fx : gFx X p s m args meth c cX11_lay 6 RX11) (n : Nat) (x0 : Nat) (x1 : Int32) (x2 : Int32) (x3 : Int32) (x4 : Int32) (s0 : Nat) (s1 : Int32) (h0 : gK τ x0 11) (hs0 : gK τ s0 11) (hr : meth.sig.returnType = (some .int)) {r : Int32} {G' : gG} {G : gG} {H : Heap} {locs : List Loc} {ls : Array Slot} (hw : gHw X τ G H locs) (hl : lv_has ls 6 [(0, .ref x0), (1, .int x1), (2, .int x2), (3, .int x3), (4, .int x4)]) (hok : gOk (k_X11_lay_69 τ n x0 x1 x2 x3 x4 s0 s1 G) (fun q => q = (r, G')))  : W p l e rm_X11_lay s m args below meth c H locs 0 0 (MQ below (gQ X τ (some (.int r)) G') args s 0 0 (gFree X)) (F0 m 69 ls [.int s1, .ref s0]) := by
  unfold k_X11_lay_69 at hok
  refine lv_iconst (v := 2) fx.1 fx.2.1 dX11_lay_69 (by decide) ?_
  obtain ⟨v9, G10, hf, hok⟩ := gOk_bind2 hok
  refine g_callV0 (κ := 11) fx hw (c_X11_throwsIf l X τ s0 s1 (2 : Int32) G hs0 hf) lv_RX11_263 ⟨rfl, rfl⟩ rfl rfl hs0 rfl hl.1 rfl ⟨Nat.le_of_ble_eq_true rfl, Nat.le_of_ble_eq_true rfl⟩ (Nat.le_of_ble_eq_true rfl) ⟨Nat.le_of_ble_eq_true rfl, Nat.le_of_ble_eq_true rfl⟩ dX11_lay_70 (fun H locs hw => ?_)
  refine g_if_eq (tgt := 78) fx dX11_lay_73 (by decide) hok (fun hok => ?_) (fun hok => ?_)
  · refine lv_aload_n fx.1 fx.2.1 dX11_lay_78 rfl (lv_at hl 0 rfl) ?_
    refine lv_iload_n fx.1 fx.2.1 dX11_lay_79 rfl (lv_at hl 1 rfl) ?_
    refine lv_iconst (v := 1) fx.1 fx.2.1 dX11_lay_80 (by decide) ?_
    obtain ⟨v11, hf, hok⟩ := gOk_bind hok
    refine g_callV0 (κ := 11) fx hw (c_X11_ofYarn l X τ x0 x1 (1 : Int32) G10 h0 hf) lv_RX11_132 ⟨rfl, rfl⟩ rfl rfl h0 rfl hl.1 rfl ⟨Nat.le_of_ble_eq_true rfl, Nat.le_of_ble_eq_true rfl⟩ (Nat.le_of_ble_eq_true rfl) ⟨Nat.le_of_ble_eq_true rfl, Nat.le_of_ble_eq_true rfl⟩ dX11_lay_81 (fun H locs hw => ?_)
    refine lv_aload_n fx.1 fx.2.1 dX11_lay_84 rfl (lv_at hl 0 rfl) ?_
    refine lv_iload_n fx.1 fx.2.1 dX11_lay_85 rfl (lv_at hl 2 rfl) ?_
    refine lv_iconst (v := 1) fx.1 fx.2.1 dX11_lay_86 (by decide) ?_
    obtain ⟨v12, hf, hok⟩ := gOk_bind hok
    refine g_callV0 (κ := 11) fx hw (c_X11_ofYarn l X τ x0 x2 (1 : Int32) G10 h0 hf) lv_RX11_132 ⟨rfl, rfl⟩ rfl rfl h0 rfl hl.1 rfl ⟨Nat.le_of_ble_eq_true rfl, Nat.le_of_ble_eq_true rfl⟩ (Nat.le_of_ble_eq_true rfl) ⟨Nat.le_of_ble_eq_true rfl, Nat.le_of_ble_eq_true rfl⟩ dX11_lay_87 (fun H locs hw => ?_)
    refine lv_aload_n fx.1 fx.2.1 dX11_lay_90 rfl (lv_at hl 0 rfl) ?_
    refine lv_iload_n fx.1 fx.2.1 dX11_lay_91 rfl (lv_at hl 3 rfl) ?_
    refine lv_iconst (v := 1) fx.1 fx.2.1 dX11_lay_92 (by decide) ?_
    obtain ⟨v13, hf, hok⟩ := gOk_bind hok
    refine g_callV0 (κ := 11) fx hw (c_X11_ofYarn l X τ x0 x3 (1 : Int32) G10 h0 hf) lv_RX11_132 ⟨rfl, rfl⟩ rfl rfl h0 rfl hl.1 rfl ⟨Nat.le_of_ble_eq_true rfl, Nat.le_of_ble_eq_true rfl⟩ (Nat.le_of_ble_eq_true rfl) ⟨Nat.le_of_ble_eq_true rfl, Nat.le_of_ble_eq_true rfl⟩ dX11_lay_93 (fun H locs hw => ?_)
    refine g_mmin fx hl.1 lm_RX11_135 lmst_min lm_init lmco_min ⟨Nat.le_of_ble_eq_true rfl, Nat.le_of_ble_eq_true rfl, Nat.le_of_ble_eq_true rfl, Nat.le_of_ble_eq_true rfl⟩ dX11_lay_96 ?_
    refine g_mmin fx hl.1 lm_RX11_135 lmst_min lm_init lmco_min ⟨Nat.le_of_ble_eq_true rfl, Nat.le_of_ble_eq_true rfl, Nat.le_of_ble_eq_true rfl, Nat.le_of_ble_eq_true rfl⟩ dX11_lay_99 ?_
    refine g_leti hok (fun v14 hok => ?_)
    refine lv_istore (lv' := [(5, .int v14), (0, .ref x0), (1, .int x1), (2, .int x2), (3, .int x3), (4, .int x4)]) fx.1 fx.2.1 dX11_lay_102 hl (by decide) rfl (fun ls hl => ?_)
    refine lv_aload_n fx.1 fx.2.1 dX11_lay_104 rfl (lv_at hl 1 rfl) ?_
    refine lv_iload fx.1 fx.2.1 dX11_lay_105 (lv_at hl 0 rfl) ?_
    refine lv_iload fx.1 fx.2.1 dX11_lay_107 (lv_at hl 5 rfl) ?_
    refine g_icmp_ge (tgt := 116) fx dX11_lay_109 (by decide) hok (fun hok => ?_) (fun hok => ?_)
    · refine lv_iconst (v := 0) fx.1 fx.2.1 dX11_lay_116 (by decide) ?_
      exact w_X11_lay_117 fx n x0 x1 x2 x3 x4 x0 (0 : Int32) h0 h0 hr hw (lv_sub hl [1, 2, 3, 4, 5] rfl) hok
    · refine lv_iconst (v := 1) fx.1 fx.2.1 dX11_lay_112 (by decide) ?_
      refine lv_goto (tgt := 117) fx.1 fx.2.1 dX11_lay_113 (by decide) ?_
      exact w_X11_lay_117 fx n x0 x1 x2 x3 x4 x0 (1 : Int32) h0 h0 hr hw (lv_sub hl [1, 2, 3, 4, 5] rfl) hok
  · refine lv_iconst (v := 0) fx.1 fx.2.1 dX11_lay_76 (by decide) ?_
    cases gOk_some hok
    exact g_iret fx hw hr dX11_lay_77
set_option maxHeartbeats 4000000 in
set_option maxRecDepth 100000 in
theorem w_X11_lay_64 {X : gX} {τ : gτ} {p : Program} {l : Launch} {e : Env} {s : State} {m : MethodId} {args : Array Value} {below : List Frame} {meth : Method} {c : Code} (fx : gFx X p s m args meth c cX11_lay 6 RX11) (n : Nat) (x0 : Nat) (x1 : Int32) (x2 : Int32) (x3 : Int32) (x4 : Int32) (s0 : Nat) (h0 : gK τ x0 11) (hs0 : gK τ s0 11) (hr : meth.sig.returnType = (some .int)) {r : Int32} {G' : gG} {G : gG} {H : Heap} {locs : List Loc} {ls : Array Slot} (hw : gHw X τ G H locs) (hl : lv_has ls 6 [(0, .ref x0), (1, .int x1), (2, .int x2), (3, .int x3), (4, .int x4)]) (hok : gOk (k_X11_lay_64 τ n x0 x1 x2 x3 x4 s0 G) (fun q => q = (r, G')))  : W p l e rm_X11_lay s m args below meth c H locs 0 0 (MQ below (gQ X τ (some (.int r)) G') args s 0 0 (gFree X)) (F0 m 64 ls [.ref s0]) := by
  unfold k_X11_lay_64 at hok
  refine lv_iconst (v := 1) fx.1 fx.2.1 dX11_lay_64 (by decide) ?_
  refine lv_goto (tgt := 69) fx.1 fx.2.1 dX11_lay_65 (by decide) ?_
  exact w_X11_lay_69 fx n x0 x1 x2 x3 x4 s0 (1 : Int32) h0 hs0 hr hw (lv_sub hl [0, 1, 2, 3, 4] rfl) hok
set_option maxHeartbeats 4000000 in
set_option maxRecDepth 100000 in
theorem w_X11_lay_35 {X : gX} {τ : gτ} {p : Program} {l : Launch} {e : Env} {s : State} {m : MethodId} {args : Array Value} {below : List Frame} {meth : Method} {c : Code} (fx : gFx X p s m args meth c cX11_lay 6 RX11) (n : Nat) (x0 : Nat) (x1 : Int32) (x2 : Int32) (x3 : Int32) (x4 : Int32) (s0 : Nat) (s1 : Int32) (h0 : gK τ x0 11) (hs0 : gK τ s0 11) (hr : meth.sig.returnType = (some .int)) {r : Int32} {G' : gG} {G : gG} {H : Heap} {locs : List Loc} {ls : Array Slot} (hw : gHw X τ G H locs) (hl : lv_has ls 6 [(0, .ref x0), (1, .int x1), (2, .int x2), (3, .int x3), (4, .int x4)]) (hok : gOk (k_X11_lay_35 τ n x0 x1 x2 x3 x4 s0 s1 G) (fun q => q = (r, G')))  : W p l e rm_X11_lay s m args below meth c H locs 0 0 (MQ below (gQ X τ (some (.int r)) G') args s 0 0 (gFree X)) (F0 m 35 ls [.int s1, .ref s0]) := by
  unfold k_X11_lay_35 at hok
  refine lv_iconst (v := 1) fx.1 fx.2.1 dX11_lay_35 (by decide) ?_
  obtain ⟨v5, G6, hf, hok⟩ := gOk_bind2 hok
  refine g_callV0 (κ := 11) fx hw (c_X11_throwsIf l X τ s0 s1 (1 : Int32) G hs0 hf) lv_RX11_263 ⟨rfl, rfl⟩ rfl rfl hs0 rfl hl.1 rfl ⟨Nat.le_of_ble_eq_true rfl, Nat.le_of_ble_eq_true rfl⟩ (Nat.le_of_ble_eq_true rfl) ⟨Nat.le_of_ble_eq_true rfl, Nat.le_of_ble_eq_true rfl⟩ dX11_lay_36 (fun H locs hw => ?_)
  refine g_if_ne (tgt := 76) fx dX11_lay_39 (by decide) hok (fun hok => ?_) (fun hok => ?_)
  · refine lv_aload_n fx.1 fx.2.1 dX11_lay_42 rfl (lv_at hl 0 rfl) ?_
    refine lv_iload_n fx.1 fx.2.1 dX11_lay_43 rfl (lv_at hl 1 rfl) ?_
    refine lv_iload_n fx.1 fx.2.1 dX11_lay_44 rfl (lv_at hl 2 rfl) ?_
    refine lv_iload_n fx.1 fx.2.1 dX11_lay_45 rfl (lv_at hl 3 rfl) ?_
    obtain ⟨v7, hf, hok⟩ := gOk_bind hok
    refine g_callS0 fx hw (c_X11_areTwo l X τ x1 x2 x3 G6  hf) ls_RX11_339 ⟨rfl, rfl⟩ rfl hl.1 rfl ⟨Nat.le_of_ble_eq_true rfl, Nat.le_of_ble_eq_true rfl⟩ (Nat.le_of_ble_eq_true rfl) ⟨Nat.le_of_ble_eq_true rfl, Nat.le_of_ble_eq_true rfl⟩ dX11_lay_46 (fun H locs hw => ?_)
    refine g_if_ne (tgt := 64) fx dX11_lay_49 (by decide) hok (fun hok => ?_) (fun hok => ?_)
    · refine lv_iload fx.1 fx.2.1 dX11_lay_52 (lv_at hl 4 rfl) ?_
      refine lv_iconst (v := 1) fx.1 fx.2.1 dX11_lay_54 (by decide) ?_
      refine lv_sipush (v := 200) fx.1 fx.2.1 dX11_lay_55 (by decide) ?_
      obtain ⟨v8, hf, hok⟩ := gOk_bind hok
      refine g_callS0 fx hw (c_X11_in l X τ x4 (1 : Int32) (200 : Int32) G6  hf) ls_RX11_69 ⟨rfl, rfl⟩ rfl hl.1 rfl ⟨Nat.le_of_ble_eq_true rfl, Nat.le_of_ble_eq_true rfl⟩ (Nat.le_of_ble_eq_true rfl) ⟨Nat.le_of_ble_eq_true rfl, Nat.le_of_ble_eq_true rfl⟩ dX11_lay_58 (fun H locs hw => ?_)
      refine g_if_ne (tgt := 68) fx dX11_lay_61 (by decide) hok (fun hok => ?_) (fun hok => ?_)
      · exact w_X11_lay_64 fx n x0 x1 x2 x3 x4 x0 h0 h0 hr hw (lv_sub hl [0, 1, 2, 3, 4] rfl) hok
      · refine lv_iconst (v := 0) fx.1 fx.2.1 dX11_lay_68 (by decide) ?_
        exact w_X11_lay_69 fx n x0 x1 x2 x3 x4 x0 (0 : Int32) h0 h0 hr hw (lv_sub hl [0, 1, 2, 3, 4] rfl) hok
    · exact w_X11_lay_64 fx n x0 x1 x2 x3 x4 x0 h0 h0 hr hw (lv_sub hl [0, 1, 2, 3, 4] rfl) hok
  · refine lv_iconst (v := 0) fx.1 fx.2.1 dX11_lay_76 (by decide) ?_
    cases gOk_some hok
    exact g_iret fx hw hr dX11_lay_77
set_option maxHeartbeats 4000000 in
set_option maxRecDepth 100000 in
theorem w_X11_lay_30 {X : gX} {τ : gτ} {p : Program} {l : Launch} {e : Env} {s : State} {m : MethodId} {args : Array Value} {below : List Frame} {meth : Method} {c : Code} (fx : gFx X p s m args meth c cX11_lay 6 RX11) (n : Nat) (x0 : Nat) (x1 : Int32) (x2 : Int32) (x3 : Int32) (x4 : Int32) (s0 : Nat) (h0 : gK τ x0 11) (hs0 : gK τ s0 11) (hr : meth.sig.returnType = (some .int)) {r : Int32} {G' : gG} {G : gG} {H : Heap} {locs : List Loc} {ls : Array Slot} (hw : gHw X τ G H locs) (hl : lv_has ls 6 [(0, .ref x0), (1, .int x1), (2, .int x2), (3, .int x3), (4, .int x4)]) (hok : gOk (k_X11_lay_30 τ n x0 x1 x2 x3 x4 s0 G) (fun q => q = (r, G')))  : W p l e rm_X11_lay s m args below meth c H locs 0 0 (MQ below (gQ X τ (some (.int r)) G') args s 0 0 (gFree X)) (F0 m 30 ls [.ref s0]) := by
  unfold k_X11_lay_30 at hok
  refine lv_iconst (v := 1) fx.1 fx.2.1 dX11_lay_30 (by decide) ?_
  refine lv_goto (tgt := 35) fx.1 fx.2.1 dX11_lay_31 (by decide) ?_
  exact w_X11_lay_35 fx n x0 x1 x2 x3 x4 s0 (1 : Int32) h0 hs0 hr hw (lv_sub hl [0, 1, 2, 3, 4] rfl) hok
set_option maxHeartbeats 4000000 in
set_option maxRecDepth 100000 in
theorem c_X11_lay (l : Launch) (X : gX) (τ : gτ) (n : Nat) (x0 : Nat) (x1 : Int32) (x2 : Int32) (x3 : Int32) (x4 : Int32) (G : gG) (h0 : gK τ x0 11) {r : Int32} {G' : gG} (h : f_X11_lay τ n x0 x1 x2 x3 x4 G = some (r, G')) : gM l X τ yX11_lay cX11_lay 6 (some .int) rm_X11_lay [.ref x0, .int x1, .int x2, .int x3, .int x4] G (some (.int r)) G' := by
  refine g_body (by decide +kernel) (Nat.le_of_ble_eq_true rfl) ?_
  intro p e s m args below meth c ls fx hr hw hl
  have fx : gFx X p s m args meth c cX11_lay 6 RX11 := fx
  have hl : lv_has ls 6 [(0, .ref x0), (1, .int x1), (2, .int x2), (3, .int x3), (4, .int x4)] := hl
  have hok : gOk (f_X11_lay τ n x0 x1 x2 x3 x4 G) (fun q => q = (r, G')) := ⟨_, h, rfl⟩
  unfold f_X11_lay at hok
  show W p l e rm_X11_lay s m args below meth c s.heap [] 0 0 (MQ below (gQ X τ (some (.int r)) G') args s 0 0 (gFree X)) _
  refine lv_aload_n fx.1 fx.2.1 dX11_lay_0 rfl (lv_at hl 0 rfl) ?_
  refine lv_iconst (v := 0) fx.1 fx.2.1 dX11_lay_1 (by decide) ?_
  refine g_puti fx hw h0 lp_RX11_3 rfl rfl dX11_lay_2 hok (fun G1 H locs hw hok => ?_)
  refine lv_aload_n fx.1 fx.2.1 dX11_lay_5 rfl (lv_at hl 0 rfl) ?_
  refine lv_aload_n fx.1 fx.2.1 dX11_lay_6 rfl (lv_at hl 0 rfl) ?_
  refine lv_iload_n fx.1 fx.2.1 dX11_lay_7 rfl (lv_at hl 1 rfl) ?_
  obtain ⟨v2, hf, hok⟩ := gOk_bind hok
  refine g_callV0 (κ := 11) fx hw (c_X11_noYarn l X τ x0 x1 G1 h0 hf) lv_RX11_315 ⟨rfl, rfl⟩ rfl rfl h0 rfl hl.1 rfl ⟨Nat.le_of_ble_eq_true rfl, Nat.le_of_ble_eq_true rfl⟩ (Nat.le_of_ble_eq_true rfl) ⟨Nat.le_of_ble_eq_true rfl, Nat.le_of_ble_eq_true rfl⟩ dX11_lay_8 (fun H locs hw => ?_)
  refine g_if_ne (tgt := 30) fx dX11_lay_11 (by decide) hok (fun hok => ?_) (fun hok => ?_)
  · refine lv_aload_n fx.1 fx.2.1 dX11_lay_14 rfl (lv_at hl 0 rfl) ?_
    refine lv_iload_n fx.1 fx.2.1 dX11_lay_15 rfl (lv_at hl 2 rfl) ?_
    obtain ⟨v3, hf, hok⟩ := gOk_bind hok
    refine g_callV0 (κ := 11) fx hw (c_X11_noYarn l X τ x0 x2 G1 h0 hf) lv_RX11_315 ⟨rfl, rfl⟩ rfl rfl h0 rfl hl.1 rfl ⟨Nat.le_of_ble_eq_true rfl, Nat.le_of_ble_eq_true rfl⟩ (Nat.le_of_ble_eq_true rfl) ⟨Nat.le_of_ble_eq_true rfl, Nat.le_of_ble_eq_true rfl⟩ dX11_lay_16 (fun H locs hw => ?_)
    refine g_if_ne (tgt := 30) fx dX11_lay_19 (by decide) hok (fun hok => ?_) (fun hok => ?_)
    · refine lv_aload_n fx.1 fx.2.1 dX11_lay_22 rfl (lv_at hl 0 rfl) ?_
      refine lv_iload_n fx.1 fx.2.1 dX11_lay_23 rfl (lv_at hl 3 rfl) ?_
      obtain ⟨v4, hf, hok⟩ := gOk_bind hok
      refine g_callV0 (κ := 11) fx hw (c_X11_noYarn l X τ x0 x3 G1 h0 hf) lv_RX11_315 ⟨rfl, rfl⟩ rfl rfl h0 rfl hl.1 rfl ⟨Nat.le_of_ble_eq_true rfl, Nat.le_of_ble_eq_true rfl⟩ (Nat.le_of_ble_eq_true rfl) ⟨Nat.le_of_ble_eq_true rfl, Nat.le_of_ble_eq_true rfl⟩ dX11_lay_24 (fun H locs hw => ?_)
      refine g_if_eq (tgt := 34) fx dX11_lay_27 (by decide) hok (fun hok => ?_) (fun hok => ?_)
      · refine lv_iconst (v := 0) fx.1 fx.2.1 dX11_lay_34 (by decide) ?_
        exact w_X11_lay_35 fx n x0 x1 x2 x3 x4 x0 (0 : Int32) h0 h0 hr hw (lv_sub hl [0, 1, 2, 3, 4] rfl) hok
      · exact w_X11_lay_30 fx n x0 x1 x2 x3 x4 x0 h0 h0 hr hw (lv_sub hl [0, 1, 2, 3, 4] rfl) hok
    · exact w_X11_lay_30 fx n x0 x1 x2 x3 x4 x0 h0 h0 hr hw (lv_sub hl [0, 1, 2, 3, 4] rfl) hok
  · exact w_X11_lay_30 fx n x0 x1 x2 x3 x4 x0 h0 h0 hr hw (lv_sub hl [0, 1, 2, 3, 4] rfl) hok
theorem dX11_tars_0 : decode cX11_tars 0 = .ok (.aload_n 0, 1) := by decide +kernel
theorem dX11_tars_1 : decode cX11_tars 1 = .ok (.getfield 13, 3) := by decide +kernel
theorem dX11_tars_4 : decode cX11_tars 4 = .ok (.iload_n 1, 1) := by decide +kernel
theorem dX11_tars_5 : decode cX11_tars 5 = .ok (.iconst 4, 1) := by decide +kernel
theorem dX11_tars_6 : decode cX11_tars 6 = .ok (.invokestatic 59, 3) := by decide +kernel
theorem dX11_tars_9 : decode cX11_tars 9 = .ok (.bipush 9, 2) := by decide +kernel
theorem dX11_tars_11 : decode cX11_tars 11 = .ok (.aload_n 0, 1) := by decide +kernel
theorem dX11_tars_12 : decode cX11_tars 12 = .ok (.iload_n 1, 1) := by decide +kernel
theorem dX11_tars_13 : decode cX11_tars 13 = .ok (.iconst 4, 1) := by decide +kernel
theorem dX11_tars_14 : decode cX11_tars 14 = .ok (.invokevirtual 62, 3) := by decide +kernel
theorem dX11_tars_17 : decode cX11_tars 17 = .ok (.iconst 1, 1) := by decide +kernel
theorem dX11_tars_18 : decode cX11_tars 18 = .ok (.iadd, 1) := by decide +kernel
theorem dX11_tars_19 : decode cX11_tars 19 = .ok (.invokestatic 135, 3) := by decide +kernel
theorem dX11_tars_22 : decode cX11_tars 22 = .ok (.iastore, 1) := by decide +kernel
theorem dX11_tars_23 : decode cX11_tars 23 = .ok (.aload_n 0, 1) := by decide +kernel
theorem dX11_tars_24 : decode cX11_tars 24 = .ok (.getfield 13, 3) := by decide +kernel
theorem dX11_tars_27 : decode cX11_tars 27 = .ok (.iload_n 1, 1) := by decide +kernel
theorem dX11_tars_28 : decode cX11_tars 28 = .ok (.iconst 5, 1) := by decide +kernel
theorem dX11_tars_29 : decode cX11_tars 29 = .ok (.invokestatic 59, 3) := by decide +kernel
theorem dX11_tars_32 : decode cX11_tars 32 = .ok (.iconst 0, 1) := by decide +kernel
theorem dX11_tars_33 : decode cX11_tars 33 = .ok (.aload_n 0, 1) := by decide +kernel
theorem dX11_tars_34 : decode cX11_tars 34 = .ok (.iload_n 1, 1) := by decide +kernel
theorem dX11_tars_35 : decode cX11_tars 35 = .ok (.iconst 5, 1) := by decide +kernel
theorem dX11_tars_36 : decode cX11_tars 36 = .ok (.invokevirtual 62, 3) := by decide +kernel
theorem dX11_tars_39 : decode cX11_tars 39 = .ok (.iconst 5, 1) := by decide +kernel
theorem dX11_tars_40 : decode cX11_tars 40 = .ok (.isub, 1) := by decide +kernel
theorem dX11_tars_41 : decode cX11_tars 41 = .ok (.invokestatic 270, 3) := by decide +kernel
theorem dX11_tars_44 : decode cX11_tars 44 = .ok (.iastore, 1) := by decide +kernel
theorem dX11_tars_45 : decode cX11_tars 45 = .ok (.return_, 1) := by decide +kernel
def rm_X11_tars : Room := { frames := 2, cells := 0, slots := 0, locals := 43 }
def f_X11_tars (τ : gτ) (x0 : Nat) (x1 : Int32) (G : gG) : Option (gG) :=
  (gr G 11 1 x0).bind fun a1 =>
  (f_X11_at x1 (4 : Int32)).bind fun v2 =>
  (f_X11_of τ x0 x1 (4 : Int32) G).bind fun v3 =>
  gchk (gIn v2 (gn τ a1)) <| gLet (gse G a1 (Int32.toNatClampNeg v2) (gmin (9 : Int32) (v3 + (1 : Int32)))) fun G4 =>
  (gr G4 11 1 x0).bind fun a5 =>
  (f_X11_at x1 (5 : Int32)).bind fun v6 =>
  (f_X11_of τ x0 x1 (5 : Int32) G4).bind fun v7 =>
  gchk (gIn v6 (gn τ a5)) <| gLet (gse G4 a5 (Int32.toNatClampNeg v6) (gmax (0 : Int32) (v7 - (5 : Int32)))) fun G8 =>
  some G8
set_option maxHeartbeats 4000000 in
set_option maxRecDepth 100000 in
theorem c_X11_tars (l : Launch) (X : gX) (τ : gτ) (x0 : Nat) (x1 : Int32) (G : gG) (h0 : gK τ x0 11) {G' : gG} (h : f_X11_tars τ x0 x1 G = some G') : gM l X τ yX11_tars cX11_tars 2 none rm_X11_tars [.ref x0, .int x1] G none G' := by
  refine g_body (by decide +kernel) (Nat.le_of_ble_eq_true rfl) ?_
  intro p e s m args below meth c ls fx hr hw hl
  have fx : gFx X p s m args meth c cX11_tars 2 RX11 := fx
  have hl : lv_has ls 2 [(0, .ref x0), (1, .int x1)] := hl
  have hok : gOk (f_X11_tars τ x0 x1 G) (fun q => q = G') := ⟨_, h, rfl⟩
  unfold f_X11_tars at hok
  show W p l e rm_X11_tars s m args below meth c s.heap [] 0 0 (MQ below (gQ X τ none G') args s 0 0 (gFree X)) _
  refine lv_aload_n fx.1 fx.2.1 dX11_tars_0 rfl (lv_at hl 0 rfl) ?_
  refine g_getr fx hw h0 lf_RX11_13 rfl dX11_tars_1 hok (fun a1 h_a1 hok => ?_)
  refine lv_iload_n fx.1 fx.2.1 dX11_tars_4 rfl (lv_at hl 1 rfl) ?_
  refine lv_iconst (v := 4) fx.1 fx.2.1 dX11_tars_5 (by decide) ?_
  obtain ⟨v2, hf, hok⟩ := gOk_bind hok
  refine g_callS0 fx hw (c_X11_at l X τ x1 (4 : Int32) G  hf) ls_RX11_59 ⟨rfl, rfl⟩ rfl hl.1 rfl ⟨Nat.le_of_ble_eq_true rfl, Nat.le_of_ble_eq_true rfl⟩ (Nat.le_of_ble_eq_true rfl) ⟨Nat.le_of_ble_eq_true rfl, Nat.le_of_ble_eq_true rfl⟩ dX11_tars_6 (fun H locs hw => ?_)
  refine lv_bipush (v := 9) fx.1 fx.2.1 dX11_tars_9 (by decide) ?_
  refine lv_aload_n fx.1 fx.2.1 dX11_tars_11 rfl (lv_at hl 0 rfl) ?_
  refine lv_iload_n fx.1 fx.2.1 dX11_tars_12 rfl (lv_at hl 1 rfl) ?_
  refine lv_iconst (v := 4) fx.1 fx.2.1 dX11_tars_13 (by decide) ?_
  obtain ⟨v3, hf, hok⟩ := gOk_bind hok
  refine g_callV0 (κ := 11) fx hw (c_X11_of l X τ x0 x1 (4 : Int32) G h0 hf) lv_RX11_62 ⟨rfl, rfl⟩ rfl rfl h0 rfl hl.1 rfl ⟨Nat.le_of_ble_eq_true rfl, Nat.le_of_ble_eq_true rfl⟩ (Nat.le_of_ble_eq_true rfl) ⟨Nat.le_of_ble_eq_true rfl, Nat.le_of_ble_eq_true rfl⟩ dX11_tars_14 (fun H locs hw => ?_)
  refine lv_iconst (v := 1) fx.1 fx.2.1 dX11_tars_17 (by decide) ?_
  refine lv_iadd fx.1 fx.2.1 dX11_tars_18 ?_
  refine g_mmin fx hl.1 lm_RX11_135 lmst_min lm_init lmco_min ⟨Nat.le_of_ble_eq_true rfl, Nat.le_of_ble_eq_true rfl, Nat.le_of_ble_eq_true rfl, Nat.le_of_ble_eq_true rfl⟩ dX11_tars_19 ?_
  refine g_iast fx hw h_a1 dX11_tars_22 hok (fun G4 H locs hw hok => ?_)
  refine lv_aload_n fx.1 fx.2.1 dX11_tars_23 rfl (lv_at hl 0 rfl) ?_
  refine g_getr fx hw h0 lf_RX11_13 rfl dX11_tars_24 hok (fun a5 h_a5 hok => ?_)
  refine lv_iload_n fx.1 fx.2.1 dX11_tars_27 rfl (lv_at hl 1 rfl) ?_
  refine lv_iconst (v := 5) fx.1 fx.2.1 dX11_tars_28 (by decide) ?_
  obtain ⟨v6, hf, hok⟩ := gOk_bind hok
  refine g_callS0 fx hw (c_X11_at l X τ x1 (5 : Int32) G4  hf) ls_RX11_59 ⟨rfl, rfl⟩ rfl hl.1 rfl ⟨Nat.le_of_ble_eq_true rfl, Nat.le_of_ble_eq_true rfl⟩ (Nat.le_of_ble_eq_true rfl) ⟨Nat.le_of_ble_eq_true rfl, Nat.le_of_ble_eq_true rfl⟩ dX11_tars_29 (fun H locs hw => ?_)
  refine lv_iconst (v := 0) fx.1 fx.2.1 dX11_tars_32 (by decide) ?_
  refine lv_aload_n fx.1 fx.2.1 dX11_tars_33 rfl (lv_at hl 0 rfl) ?_
  refine lv_iload_n fx.1 fx.2.1 dX11_tars_34 rfl (lv_at hl 1 rfl) ?_
  refine lv_iconst (v := 5) fx.1 fx.2.1 dX11_tars_35 (by decide) ?_
  obtain ⟨v7, hf, hok⟩ := gOk_bind hok
  refine g_callV0 (κ := 11) fx hw (c_X11_of l X τ x0 x1 (5 : Int32) G4 h0 hf) lv_RX11_62 ⟨rfl, rfl⟩ rfl rfl h0 rfl hl.1 rfl ⟨Nat.le_of_ble_eq_true rfl, Nat.le_of_ble_eq_true rfl⟩ (Nat.le_of_ble_eq_true rfl) ⟨Nat.le_of_ble_eq_true rfl, Nat.le_of_ble_eq_true rfl⟩ dX11_tars_36 (fun H locs hw => ?_)
  refine lv_iconst (v := 5) fx.1 fx.2.1 dX11_tars_39 (by decide) ?_
  refine lv_isub fx.1 fx.2.1 dX11_tars_40 ?_
  refine g_mmax fx hl.1 lm_RX11_270 lmst_max lm_init lmco_max ⟨Nat.le_of_ble_eq_true rfl, Nat.le_of_ble_eq_true rfl, Nat.le_of_ble_eq_true rfl, Nat.le_of_ble_eq_true rfl⟩ dX11_tars_41 ?_
  refine g_iast fx hw h_a5 dX11_tars_44 hok (fun G8 H locs hw hok => ?_)
  cases gOk_some hok
  exact g_vret fx hw hr dX11_tars_45
theorem dX11_tar_0 : decode cX11_tar 0 = .ok (.aload_n 0, 1) := by decide +kernel
theorem dX11_tar_1 : decode cX11_tar 1 = .ok (.iconst 0, 1) := by decide +kernel
theorem dX11_tar_2 : decode cX11_tar 2 = .ok (.putfield 3, 3) := by decide +kernel
theorem dX11_tar_5 : decode cX11_tar 5 = .ok (.aload_n 0, 1) := by decide +kernel
theorem dX11_tar_6 : decode cX11_tar 6 = .ok (.aload_n 0, 1) := by decide +kernel
theorem dX11_tar_7 : decode cX11_tar 7 = .ok (.iload_n 1, 1) := by decide +kernel
theorem dX11_tar_8 : decode cX11_tar 8 = .ok (.invokevirtual 321, 3) := by decide +kernel
theorem dX11_tar_11 : decode cX11_tar 11 = .ok (.iconst 1, 1) := by decide +kernel
theorem dX11_tar_12 : decode cX11_tar 12 = .ok (.invokevirtual 263, 3) := by decide +kernel
theorem dX11_tar_15 : decode cX11_tar 15 = .ok (.ifCond .ne 24, 3) := by decide +kernel
theorem dX11_tar_18 : decode cX11_tar 18 = .ok (.aload_n 0, 1) := by decide +kernel
theorem dX11_tar_19 : decode cX11_tar 19 = .ok (.aload_n 0, 1) := by decide +kernel
theorem dX11_tar_20 : decode cX11_tar 20 = .ok (.iload_n 1, 1) := by decide +kernel
theorem dX11_tar_21 : decode cX11_tar 21 = .ok (.invokevirtual 146, 3) := by decide +kernel
theorem dX11_tar_24 : decode cX11_tar 24 = .ok (.ifCond .ne 7, 3) := by decide +kernel
theorem dX11_tar_27 : decode cX11_tar 27 = .ok (.iconst 1, 1) := by decide +kernel
theorem dX11_tar_28 : decode cX11_tar 28 = .ok (.goto 4, 3) := by decide +kernel
theorem dX11_tar_31 : decode cX11_tar 31 = .ok (.iconst 0, 1) := by decide +kernel
theorem dX11_tar_32 : decode cX11_tar 32 = .ok (.iconst 2, 1) := by decide +kernel
theorem dX11_tar_33 : decode cX11_tar 33 = .ok (.invokevirtual 263, 3) := by decide +kernel
theorem dX11_tar_36 : decode cX11_tar 36 = .ok (.ifCond .eq 5, 3) := by decide +kernel
theorem dX11_tar_39 : decode cX11_tar 39 = .ok (.iconst 0, 1) := by decide +kernel
theorem dX11_tar_40 : decode cX11_tar 40 = .ok (.ireturn, 1) := by decide +kernel
theorem dX11_tar_41 : decode cX11_tar 41 = .ok (.aload_n 0, 1) := by decide +kernel
theorem dX11_tar_42 : decode cX11_tar 42 = .ok (.invokevirtual 346, 3) := by decide +kernel
theorem dX11_tar_45 : decode cX11_tar 45 = .ok (.aload_n 0, 1) := by decide +kernel
theorem dX11_tar_46 : decode cX11_tar 46 = .ok (.iload_n 1, 1) := by decide +kernel
theorem dX11_tar_47 : decode cX11_tar 47 = .ok (.invokevirtual 349, 3) := by decide +kernel
theorem dX11_tar_50 : decode cX11_tar 50 = .ok (.aload_n 0, 1) := by decide +kernel
theorem dX11_tar_51 : decode cX11_tar 51 = .ok (.iload_n 1, 1) := by decide +kernel
theorem dX11_tar_52 : decode cX11_tar 52 = .ok (.iconst 4, 1) := by decide +kernel
theorem dX11_tar_53 : decode cX11_tar 53 = .ok (.invokevirtual 62, 3) := by decide +kernel
theorem dX11_tar_56 : decode cX11_tar 56 = .ok (.ireturn, 1) := by decide +kernel
theorem lv_RX11_349 : gLv RX11 349 RX11 yX11_tars cX11_tars 2 none 1 := gLv_of (wA_t (wt8 (List.mem_of_getElem? (i := 121) (by decide +kernel))) (by decide +kernel)) (wA_t (wt8 (List.mem_of_getElem? (i := 123) (by decide +kernel))) (by decide +kernel)) (wA_of (List.mem_append_left _ (List.mem_map.mpr ⟨(⟨"YearRopeModel", "tars", "(I)V"⟩, 20), wp7 (List.mem_of_getElem? (i := 2) (by decide +kernel)), rfl⟩)) (by decide +kernel)) (wA_t (wt1 (List.mem_of_getElem? (i := 12) (by decide +kernel))) (by decide +kernel)) (wA_t (wt8 (List.mem_of_getElem? (i := 124) (by decide +kernel))) (by decide +kernel)) ⟨rfl, by decide +kernel, by decide +kernel, by decide +kernel⟩
def rm_X11_tar : Room := { frames := 3, cells := 0, slots := 0, locals := 64 }
def k_X11_tar_32 (τ : gτ) (n : Nat) (x0 : Nat) (x1 : Int32) (s0 : Nat) (s1 : Int32) (G : gG) : Option (Int32 × gG) :=
  gBind2 (f_X11_throwsIf s0 s1 (2 : Int32) G) fun v6 G7 =>
  if v6 = 0 then ((f_X11_remembers τ n x0 G7).bind fun G8 =>
  (f_X11_tars τ x0 x1 G8).bind fun G9 =>
  (f_X11_of τ x0 x1 (4 : Int32) G9).bind fun v10 =>
  some (v10, G9))
  else (some (0, G7))
def f_X11_tar (τ : gτ) (n : Nat) (x0 : Nat) (x1 : Int32) (G : gG) : Option (Int32 × gG) :=
  gLet (gsi G 11 0 x0 (0 : Int32)) fun G1 =>
  (f_X11_noRope τ x0 x1 G1).bind fun v2 =>
  gBind2 (f_X11_throwsIf x0 v2 (1 : Int32) G1) fun v3 G4 =>
  if v3 = 0 then ((f_X11_isWhole τ x0 x1 G4).bind fun v5 =>
  if v5 = 0 then (k_X11_tar_32 τ n x0 x1 x0 (1 : Int32) G4)
  else (k_X11_tar_32 τ n x0 x1 x0 (0 : Int32) G4))
  else (some (0, G4))
set_option maxHeartbeats 4000000 in
set_option maxRecDepth 100000 in
theorem w_X11_tar_32 {X : gX} {τ : gτ} {p : Program} {l : Launch} {e : Env} {s : State} {m : MethodId} {args : Array Value} {below : List Frame} {meth : Method} {c : Code} (fx : gFx X p s m args meth c cX11_tar 2 RX11) (n : Nat) (x0 : Nat) (x1 : Int32) (s0 : Nat) (s1 : Int32) (h0 : gK τ x0 11) (hs0 : gK τ s0 11) (hr : meth.sig.returnType = (some .int)) {r : Int32} {G' : gG} {G : gG} {H : Heap} {locs : List Loc} {ls : Array Slot} (hw : gHw X τ G H locs) (hl : lv_has ls 2 [(0, .ref x0), (1, .int x1)]) (hok : gOk (k_X11_tar_32 τ n x0 x1 s0 s1 G) (fun q => q = (r, G')))  : W p l e rm_X11_tar s m args below meth c H locs 0 0 (MQ below (gQ X τ (some (.int r)) G') args s 0 0 (gFree X)) (F0 m 32 ls [.int s1, .ref s0]) := by
  unfold k_X11_tar_32 at hok
  refine lv_iconst (v := 2) fx.1 fx.2.1 dX11_tar_32 (by decide) ?_
  obtain ⟨v6, G7, hf, hok⟩ := gOk_bind2 hok
  refine g_callV0 (κ := 11) fx hw (c_X11_throwsIf l X τ s0 s1 (2 : Int32) G hs0 hf) lv_RX11_263 ⟨rfl, rfl⟩ rfl rfl hs0 rfl hl.1 rfl ⟨Nat.le_of_ble_eq_true rfl, Nat.le_of_ble_eq_true rfl⟩ (Nat.le_of_ble_eq_true rfl) ⟨Nat.le_of_ble_eq_true rfl, Nat.le_of_ble_eq_true rfl⟩ dX11_tar_33 (fun H locs hw => ?_)
  refine g_if_eq (tgt := 41) fx dX11_tar_36 (by decide) hok (fun hok => ?_) (fun hok => ?_)
  · refine lv_aload_n fx.1 fx.2.1 dX11_tar_41 rfl (lv_at hl 0 rfl) ?_
    obtain ⟨G8, hf, hok⟩ := gOk_bind hok
    refine g_callV0 (κ := 11) fx hw (c_X11_remembers l X τ n x0 G7 h0 hf) lv_RX11_346 ⟨rfl, rfl⟩ rfl rfl h0 rfl hl.1 rfl ⟨Nat.le_of_ble_eq_true rfl, Nat.le_of_ble_eq_true rfl⟩ (Nat.le_of_ble_eq_true rfl) ⟨Nat.le_of_ble_eq_true rfl, Nat.le_of_ble_eq_true rfl⟩ dX11_tar_42 (fun H locs hw => ?_)
    refine lv_aload_n fx.1 fx.2.1 dX11_tar_45 rfl (lv_at hl 0 rfl) ?_
    refine lv_iload_n fx.1 fx.2.1 dX11_tar_46 rfl (lv_at hl 1 rfl) ?_
    obtain ⟨G9, hf, hok⟩ := gOk_bind hok
    refine g_callV0 (κ := 11) fx hw (c_X11_tars l X τ x0 x1 G8 h0 hf) lv_RX11_349 ⟨rfl, rfl⟩ rfl rfl h0 rfl hl.1 rfl ⟨Nat.le_of_ble_eq_true rfl, Nat.le_of_ble_eq_true rfl⟩ (Nat.le_of_ble_eq_true rfl) ⟨Nat.le_of_ble_eq_true rfl, Nat.le_of_ble_eq_true rfl⟩ dX11_tar_47 (fun H locs hw => ?_)
    refine lv_aload_n fx.1 fx.2.1 dX11_tar_50 rfl (lv_at hl 0 rfl) ?_
    refine lv_iload_n fx.1 fx.2.1 dX11_tar_51 rfl (lv_at hl 1 rfl) ?_
    refine lv_iconst (v := 4) fx.1 fx.2.1 dX11_tar_52 (by decide) ?_
    obtain ⟨v10, hf, hok⟩ := gOk_bind hok
    refine g_callV0 (κ := 11) fx hw (c_X11_of l X τ x0 x1 (4 : Int32) G9 h0 hf) lv_RX11_62 ⟨rfl, rfl⟩ rfl rfl h0 rfl hl.1 rfl ⟨Nat.le_of_ble_eq_true rfl, Nat.le_of_ble_eq_true rfl⟩ (Nat.le_of_ble_eq_true rfl) ⟨Nat.le_of_ble_eq_true rfl, Nat.le_of_ble_eq_true rfl⟩ dX11_tar_53 (fun H locs hw => ?_)
    cases gOk_some hok
    exact g_iret fx hw hr dX11_tar_56
  · refine lv_iconst (v := 0) fx.1 fx.2.1 dX11_tar_39 (by decide) ?_
    cases gOk_some hok
    exact g_iret fx hw hr dX11_tar_40
set_option maxHeartbeats 4000000 in
set_option maxRecDepth 100000 in
theorem c_X11_tar (l : Launch) (X : gX) (τ : gτ) (n : Nat) (x0 : Nat) (x1 : Int32) (G : gG) (h0 : gK τ x0 11) {r : Int32} {G' : gG} (h : f_X11_tar τ n x0 x1 G = some (r, G')) : gM l X τ yX11_tar cX11_tar 2 (some .int) rm_X11_tar [.ref x0, .int x1] G (some (.int r)) G' := by
  refine g_body (by decide +kernel) (Nat.le_of_ble_eq_true rfl) ?_
  intro p e s m args below meth c ls fx hr hw hl
  have fx : gFx X p s m args meth c cX11_tar 2 RX11 := fx
  have hl : lv_has ls 2 [(0, .ref x0), (1, .int x1)] := hl
  have hok : gOk (f_X11_tar τ n x0 x1 G) (fun q => q = (r, G')) := ⟨_, h, rfl⟩
  unfold f_X11_tar at hok
  show W p l e rm_X11_tar s m args below meth c s.heap [] 0 0 (MQ below (gQ X τ (some (.int r)) G') args s 0 0 (gFree X)) _
  refine lv_aload_n fx.1 fx.2.1 dX11_tar_0 rfl (lv_at hl 0 rfl) ?_
  refine lv_iconst (v := 0) fx.1 fx.2.1 dX11_tar_1 (by decide) ?_
  refine g_puti fx hw h0 lp_RX11_3 rfl rfl dX11_tar_2 hok (fun G1 H locs hw hok => ?_)
  refine lv_aload_n fx.1 fx.2.1 dX11_tar_5 rfl (lv_at hl 0 rfl) ?_
  refine lv_aload_n fx.1 fx.2.1 dX11_tar_6 rfl (lv_at hl 0 rfl) ?_
  refine lv_iload_n fx.1 fx.2.1 dX11_tar_7 rfl (lv_at hl 1 rfl) ?_
  obtain ⟨v2, hf, hok⟩ := gOk_bind hok
  refine g_callV0 (κ := 11) fx hw (c_X11_noRope l X τ x0 x1 G1 h0 hf) lv_RX11_321 ⟨rfl, rfl⟩ rfl rfl h0 rfl hl.1 rfl ⟨Nat.le_of_ble_eq_true rfl, Nat.le_of_ble_eq_true rfl⟩ (Nat.le_of_ble_eq_true rfl) ⟨Nat.le_of_ble_eq_true rfl, Nat.le_of_ble_eq_true rfl⟩ dX11_tar_8 (fun H locs hw => ?_)
  refine lv_iconst (v := 1) fx.1 fx.2.1 dX11_tar_11 (by decide) ?_
  obtain ⟨v3, G4, hf, hok⟩ := gOk_bind2 hok
  refine g_callV0 (κ := 11) fx hw (c_X11_throwsIf l X τ x0 v2 (1 : Int32) G1 h0 hf) lv_RX11_263 ⟨rfl, rfl⟩ rfl rfl h0 rfl hl.1 rfl ⟨Nat.le_of_ble_eq_true rfl, Nat.le_of_ble_eq_true rfl⟩ (Nat.le_of_ble_eq_true rfl) ⟨Nat.le_of_ble_eq_true rfl, Nat.le_of_ble_eq_true rfl⟩ dX11_tar_12 (fun H locs hw => ?_)
  refine g_if_ne (tgt := 39) fx dX11_tar_15 (by decide) hok (fun hok => ?_) (fun hok => ?_)
  · refine lv_aload_n fx.1 fx.2.1 dX11_tar_18 rfl (lv_at hl 0 rfl) ?_
    refine lv_aload_n fx.1 fx.2.1 dX11_tar_19 rfl (lv_at hl 0 rfl) ?_
    refine lv_iload_n fx.1 fx.2.1 dX11_tar_20 rfl (lv_at hl 1 rfl) ?_
    obtain ⟨v5, hf, hok⟩ := gOk_bind hok
    refine g_callV0 (κ := 11) fx hw (c_X11_isWhole l X τ x0 x1 G4 h0 hf) lv_RX11_146 ⟨rfl, rfl⟩ rfl rfl h0 rfl hl.1 rfl ⟨Nat.le_of_ble_eq_true rfl, Nat.le_of_ble_eq_true rfl⟩ (Nat.le_of_ble_eq_true rfl) ⟨Nat.le_of_ble_eq_true rfl, Nat.le_of_ble_eq_true rfl⟩ dX11_tar_21 (fun H locs hw => ?_)
    refine g_if_ne (tgt := 31) fx dX11_tar_24 (by decide) hok (fun hok => ?_) (fun hok => ?_)
    · refine lv_iconst (v := 1) fx.1 fx.2.1 dX11_tar_27 (by decide) ?_
      refine lv_goto (tgt := 32) fx.1 fx.2.1 dX11_tar_28 (by decide) ?_
      exact w_X11_tar_32 fx n x0 x1 x0 (1 : Int32) h0 h0 hr hw (lv_sub hl [0, 1] rfl) hok
    · refine lv_iconst (v := 0) fx.1 fx.2.1 dX11_tar_31 (by decide) ?_
      exact w_X11_tar_32 fx n x0 x1 x0 (0 : Int32) h0 h0 hr hw (lv_sub hl [0, 1] rfl) hok
  · refine lv_iconst (v := 0) fx.1 fx.2.1 dX11_tar_39 (by decide) ?_
    cases gOk_some hok
    exact g_iret fx hw hr dX11_tar_40
theorem dX11_whip_0 : decode cX11_whip 0 = .ok (.aload_n 0, 1) := by decide +kernel
theorem dX11_whip_1 : decode cX11_whip 1 = .ok (.iconst 0, 1) := by decide +kernel
theorem dX11_whip_2 : decode cX11_whip 2 = .ok (.putfield 3, 3) := by decide +kernel
theorem dX11_whip_5 : decode cX11_whip 5 = .ok (.aload_n 0, 1) := by decide +kernel
theorem dX11_whip_6 : decode cX11_whip 6 = .ok (.aload_n 0, 1) := by decide +kernel
theorem dX11_whip_7 : decode cX11_whip 7 = .ok (.iload_n 1, 1) := by decide +kernel
theorem dX11_whip_8 : decode cX11_whip 8 = .ok (.invokevirtual 321, 3) := by decide +kernel
theorem dX11_whip_11 : decode cX11_whip 11 = .ok (.iconst 1, 1) := by decide +kernel
theorem dX11_whip_12 : decode cX11_whip 12 = .ok (.invokevirtual 263, 3) := by decide +kernel
theorem dX11_whip_15 : decode cX11_whip 15 = .ok (.ifCond .ne 24, 3) := by decide +kernel
theorem dX11_whip_18 : decode cX11_whip 18 = .ok (.aload_n 0, 1) := by decide +kernel
theorem dX11_whip_19 : decode cX11_whip 19 = .ok (.aload_n 0, 1) := by decide +kernel
theorem dX11_whip_20 : decode cX11_whip 20 = .ok (.iload_n 1, 1) := by decide +kernel
theorem dX11_whip_21 : decode cX11_whip 21 = .ok (.invokevirtual 146, 3) := by decide +kernel
theorem dX11_whip_24 : decode cX11_whip 24 = .ok (.ifCond .ne 7, 3) := by decide +kernel
theorem dX11_whip_27 : decode cX11_whip 27 = .ok (.iconst 1, 1) := by decide +kernel
theorem dX11_whip_28 : decode cX11_whip 28 = .ok (.goto 4, 3) := by decide +kernel
theorem dX11_whip_31 : decode cX11_whip 31 = .ok (.iconst 0, 1) := by decide +kernel
theorem dX11_whip_32 : decode cX11_whip 32 = .ok (.iconst 2, 1) := by decide +kernel
theorem dX11_whip_33 : decode cX11_whip 33 = .ok (.invokevirtual 263, 3) := by decide +kernel
theorem dX11_whip_36 : decode cX11_whip 36 = .ok (.ifCond .eq 5, 3) := by decide +kernel
theorem dX11_whip_39 : decode cX11_whip 39 = .ok (.iconst 0, 1) := by decide +kernel
theorem dX11_whip_40 : decode cX11_whip 40 = .ok (.ireturn, 1) := by decide +kernel
theorem dX11_whip_41 : decode cX11_whip 41 = .ok (.aload_n 0, 1) := by decide +kernel
theorem dX11_whip_42 : decode cX11_whip 42 = .ok (.invokevirtual 346, 3) := by decide +kernel
theorem dX11_whip_45 : decode cX11_whip 45 = .ok (.aload_n 0, 1) := by decide +kernel
theorem dX11_whip_46 : decode cX11_whip 46 = .ok (.iload_n 1, 1) := by decide +kernel
theorem dX11_whip_47 : decode cX11_whip 47 = .ok (.bipush 6, 2) := by decide +kernel
theorem dX11_whip_49 : decode cX11_whip 49 = .ok (.invokevirtual 62, 3) := by decide +kernel
theorem dX11_whip_52 : decode cX11_whip 52 = .ok (.iconst 1, 1) := by decide +kernel
theorem dX11_whip_53 : decode cX11_whip 53 = .ok (.if_icmp .ne 7, 3) := by decide +kernel
theorem dX11_whip_56 : decode cX11_whip 56 = .ok (.iconst 1, 1) := by decide +kernel
theorem dX11_whip_57 : decode cX11_whip 57 = .ok (.goto 4, 3) := by decide +kernel
theorem dX11_whip_60 : decode cX11_whip 60 = .ok (.iconst 0, 1) := by decide +kernel
theorem dX11_whip_61 : decode cX11_whip 61 = .ok (.istore_n 2, 1) := by decide +kernel
theorem dX11_whip_62 : decode cX11_whip 62 = .ok (.aload_n 0, 1) := by decide +kernel
theorem dX11_whip_63 : decode cX11_whip 63 = .ok (.getfield 13, 3) := by decide +kernel
theorem dX11_whip_66 : decode cX11_whip 66 = .ok (.iload_n 1, 1) := by decide +kernel
theorem dX11_whip_67 : decode cX11_whip 67 = .ok (.bipush 6, 2) := by decide +kernel
theorem dX11_whip_69 : decode cX11_whip 69 = .ok (.invokestatic 59, 3) := by decide +kernel
theorem dX11_whip_72 : decode cX11_whip 72 = .ok (.iconst 1, 1) := by decide +kernel
theorem dX11_whip_73 : decode cX11_whip 73 = .ok (.iastore, 1) := by decide +kernel
theorem dX11_whip_74 : decode cX11_whip 74 = .ok (.iload_n 2, 1) := by decide +kernel
theorem dX11_whip_75 : decode cX11_whip 75 = .ok (.ifCond .ne 7, 3) := by decide +kernel
theorem dX11_whip_78 : decode cX11_whip 78 = .ok (.iconst 1, 1) := by decide +kernel
theorem dX11_whip_79 : decode cX11_whip 79 = .ok (.goto 4, 3) := by decide +kernel
theorem dX11_whip_82 : decode cX11_whip 82 = .ok (.iconst 0, 1) := by decide +kernel
theorem dX11_whip_83 : decode cX11_whip 83 = .ok (.ireturn, 1) := by decide +kernel
def rm_X11_whip : Room := { frames := 3, cells := 0, slots := 0, locals := 64 }
def k_X11_whip_61 (τ : gτ) (n : Nat) (x0 : Nat) (x1 : Int32) (s0 : Int32) (G : gG) : Option (Int32 × gG) :=
  (gr G 11 1 x0).bind fun a10 =>
  (f_X11_at x1 (6 : Int32)).bind fun v11 =>
  gchk (gIn v11 (gn τ a10)) <| gLet (gse G a10 (Int32.toNatClampNeg v11) (1 : Int32)) fun G12 =>
  if s0 = 0 then (some (1, G12))
  else (some (0, G12))
def k_X11_whip_32 (τ : gτ) (n : Nat) (x0 : Nat) (x1 : Int32) (s0 : Nat) (s1 : Int32) (G : gG) : Option (Int32 × gG) :=
  gBind2 (f_X11_throwsIf s0 s1 (2 : Int32) G) fun v6 G7 =>
  if v6 = 0 then ((f_X11_remembers τ n x0 G7).bind fun G8 =>
  (f_X11_of τ x0 x1 (6 : Int32) G8).bind fun v9 =>
  if v9 = (1 : Int32) then (k_X11_whip_61 τ n x0 x1 (1 : Int32) G8)
  else (k_X11_whip_61 τ n x0 x1 (0 : Int32) G8))
  else (some (0, G7))
def f_X11_whip (τ : gτ) (n : Nat) (x0 : Nat) (x1 : Int32) (G : gG) : Option (Int32 × gG) :=
  gLet (gsi G 11 0 x0 (0 : Int32)) fun G1 =>
  (f_X11_noRope τ x0 x1 G1).bind fun v2 =>
  gBind2 (f_X11_throwsIf x0 v2 (1 : Int32) G1) fun v3 G4 =>
  if v3 = 0 then ((f_X11_isWhole τ x0 x1 G4).bind fun v5 =>
  if v5 = 0 then (k_X11_whip_32 τ n x0 x1 x0 (1 : Int32) G4)
  else (k_X11_whip_32 τ n x0 x1 x0 (0 : Int32) G4))
  else (some (0, G4))
set_option maxHeartbeats 4000000 in
set_option maxRecDepth 100000 in
theorem w_X11_whip_61 {X : gX} {τ : gτ} {p : Program} {l : Launch} {e : Env} {s : State} {m : MethodId} {args : Array Value} {below : List Frame} {meth : Method} {c : Code} (fx : gFx X p s m args meth c cX11_whip 3 RX11) (n : Nat) (x0 : Nat) (x1 : Int32) (s0 : Int32) (h0 : gK τ x0 11)  (hr : meth.sig.returnType = (some .boolean)) {r : Int32} {G' : gG} {G : gG} {H : Heap} {locs : List Loc} {ls : Array Slot} (hw : gHw X τ G H locs) (hl : lv_has ls 3 [(0, .ref x0), (1, .int x1)]) (hok : gOk (k_X11_whip_61 τ n x0 x1 s0 G) (fun q => q = (r, G')))  : W p l e rm_X11_whip s m args below meth c H locs 0 0 (MQ below (gQ X τ (some (.int r)) G') args s 0 0 (gFree X)) (F0 m 61 ls [.int s0]) := by
  unfold k_X11_whip_61 at hok
  refine lv_istore_n (lv' := [(2, .int s0), (0, .ref x0), (1, .int x1)]) fx.1 fx.2.1 dX11_whip_61 rfl hl (by decide) rfl (fun ls hl => ?_)
  refine lv_aload_n fx.1 fx.2.1 dX11_whip_62 rfl (lv_at hl 1 rfl) ?_
  refine g_getr fx hw h0 lf_RX11_13 rfl dX11_whip_63 hok (fun a10 h_a10 hok => ?_)
  refine lv_iload_n fx.1 fx.2.1 dX11_whip_66 rfl (lv_at hl 2 rfl) ?_
  refine lv_bipush (v := 6) fx.1 fx.2.1 dX11_whip_67 (by decide) ?_
  obtain ⟨v11, hf, hok⟩ := gOk_bind hok
  refine g_callS0 fx hw (c_X11_at l X τ x1 (6 : Int32) G  hf) ls_RX11_59 ⟨rfl, rfl⟩ rfl hl.1 rfl ⟨Nat.le_of_ble_eq_true rfl, Nat.le_of_ble_eq_true rfl⟩ (Nat.le_of_ble_eq_true rfl) ⟨Nat.le_of_ble_eq_true rfl, Nat.le_of_ble_eq_true rfl⟩ dX11_whip_69 (fun H locs hw => ?_)
  refine lv_iconst (v := 1) fx.1 fx.2.1 dX11_whip_72 (by decide) ?_
  refine g_iast fx hw h_a10 dX11_whip_73 hok (fun G12 H locs hw hok => ?_)
  refine lv_iload_n fx.1 fx.2.1 dX11_whip_74 rfl (lv_at hl 0 rfl) ?_
  refine g_if_ne (tgt := 82) fx dX11_whip_75 (by decide) hok (fun hok => ?_) (fun hok => ?_)
  · refine lv_iconst (v := 1) fx.1 fx.2.1 dX11_whip_78 (by decide) ?_
    refine lv_goto (tgt := 83) fx.1 fx.2.1 dX11_whip_79 (by decide) ?_
    cases gOk_some hok
    exact g_zret fx hw hr (by decide) dX11_whip_83
  · refine lv_iconst (v := 0) fx.1 fx.2.1 dX11_whip_82 (by decide) ?_
    cases gOk_some hok
    exact g_zret fx hw hr (by decide) dX11_whip_83
set_option maxHeartbeats 4000000 in
set_option maxRecDepth 100000 in
theorem w_X11_whip_32 {X : gX} {τ : gτ} {p : Program} {l : Launch} {e : Env} {s : State} {m : MethodId} {args : Array Value} {below : List Frame} {meth : Method} {c : Code} (fx : gFx X p s m args meth c cX11_whip 3 RX11) (n : Nat) (x0 : Nat) (x1 : Int32) (s0 : Nat) (s1 : Int32) (h0 : gK τ x0 11) (hs0 : gK τ s0 11) (hr : meth.sig.returnType = (some .boolean)) {r : Int32} {G' : gG} {G : gG} {H : Heap} {locs : List Loc} {ls : Array Slot} (hw : gHw X τ G H locs) (hl : lv_has ls 3 [(0, .ref x0), (1, .int x1)]) (hok : gOk (k_X11_whip_32 τ n x0 x1 s0 s1 G) (fun q => q = (r, G')))  : W p l e rm_X11_whip s m args below meth c H locs 0 0 (MQ below (gQ X τ (some (.int r)) G') args s 0 0 (gFree X)) (F0 m 32 ls [.int s1, .ref s0]) := by
  unfold k_X11_whip_32 at hok
  refine lv_iconst (v := 2) fx.1 fx.2.1 dX11_whip_32 (by decide) ?_
  obtain ⟨v6, G7, hf, hok⟩ := gOk_bind2 hok
  refine g_callV0 (κ := 11) fx hw (c_X11_throwsIf l X τ s0 s1 (2 : Int32) G hs0 hf) lv_RX11_263 ⟨rfl, rfl⟩ rfl rfl hs0 rfl hl.1 rfl ⟨Nat.le_of_ble_eq_true rfl, Nat.le_of_ble_eq_true rfl⟩ (Nat.le_of_ble_eq_true rfl) ⟨Nat.le_of_ble_eq_true rfl, Nat.le_of_ble_eq_true rfl⟩ dX11_whip_33 (fun H locs hw => ?_)
  refine g_if_eq (tgt := 41) fx dX11_whip_36 (by decide) hok (fun hok => ?_) (fun hok => ?_)
  · refine lv_aload_n fx.1 fx.2.1 dX11_whip_41 rfl (lv_at hl 0 rfl) ?_
    obtain ⟨G8, hf, hok⟩ := gOk_bind hok
    refine g_callV0 (κ := 11) fx hw (c_X11_remembers l X τ n x0 G7 h0 hf) lv_RX11_346 ⟨rfl, rfl⟩ rfl rfl h0 rfl hl.1 rfl ⟨Nat.le_of_ble_eq_true rfl, Nat.le_of_ble_eq_true rfl⟩ (Nat.le_of_ble_eq_true rfl) ⟨Nat.le_of_ble_eq_true rfl, Nat.le_of_ble_eq_true rfl⟩ dX11_whip_42 (fun H locs hw => ?_)
    refine lv_aload_n fx.1 fx.2.1 dX11_whip_45 rfl (lv_at hl 0 rfl) ?_
    refine lv_iload_n fx.1 fx.2.1 dX11_whip_46 rfl (lv_at hl 1 rfl) ?_
    refine lv_bipush (v := 6) fx.1 fx.2.1 dX11_whip_47 (by decide) ?_
    obtain ⟨v9, hf, hok⟩ := gOk_bind hok
    refine g_callV0 (κ := 11) fx hw (c_X11_of l X τ x0 x1 (6 : Int32) G8 h0 hf) lv_RX11_62 ⟨rfl, rfl⟩ rfl rfl h0 rfl hl.1 rfl ⟨Nat.le_of_ble_eq_true rfl, Nat.le_of_ble_eq_true rfl⟩ (Nat.le_of_ble_eq_true rfl) ⟨Nat.le_of_ble_eq_true rfl, Nat.le_of_ble_eq_true rfl⟩ dX11_whip_49 (fun H locs hw => ?_)
    refine lv_iconst (v := 1) fx.1 fx.2.1 dX11_whip_52 (by decide) ?_
    refine g_icmp_ne (tgt := 60) fx dX11_whip_53 (by decide) hok (fun hok => ?_) (fun hok => ?_)
    · refine lv_iconst (v := 1) fx.1 fx.2.1 dX11_whip_56 (by decide) ?_
      refine lv_goto (tgt := 61) fx.1 fx.2.1 dX11_whip_57 (by decide) ?_
      exact w_X11_whip_61 fx n x0 x1 (1 : Int32) h0  hr hw (lv_sub hl [0, 1] rfl) hok
    · refine lv_iconst (v := 0) fx.1 fx.2.1 dX11_whip_60 (by decide) ?_
      exact w_X11_whip_61 fx n x0 x1 (0 : Int32) h0  hr hw (lv_sub hl [0, 1] rfl) hok
  · refine lv_iconst (v := 0) fx.1 fx.2.1 dX11_whip_39 (by decide) ?_
    cases gOk_some hok
    exact g_zret fx hw hr (by decide) dX11_whip_40
set_option maxHeartbeats 4000000 in
set_option maxRecDepth 100000 in
theorem c_X11_whip (l : Launch) (X : gX) (τ : gτ) (n : Nat) (x0 : Nat) (x1 : Int32) (G : gG) (h0 : gK τ x0 11) {r : Int32} {G' : gG} (h : f_X11_whip τ n x0 x1 G = some (r, G')) : gM l X τ yX11_whip cX11_whip 3 (some .boolean) rm_X11_whip [.ref x0, .int x1] G (some (.int r)) G' := by
  refine g_body (by decide +kernel) (Nat.le_of_ble_eq_true rfl) ?_
  intro p e s m args below meth c ls fx hr hw hl
  have fx : gFx X p s m args meth c cX11_whip 3 RX11 := fx
  have hl : lv_has ls 3 [(0, .ref x0), (1, .int x1)] := hl
  have hok : gOk (f_X11_whip τ n x0 x1 G) (fun q => q = (r, G')) := ⟨_, h, rfl⟩
  unfold f_X11_whip at hok
  show W p l e rm_X11_whip s m args below meth c s.heap [] 0 0 (MQ below (gQ X τ (some (.int r)) G') args s 0 0 (gFree X)) _
  refine lv_aload_n fx.1 fx.2.1 dX11_whip_0 rfl (lv_at hl 0 rfl) ?_
  refine lv_iconst (v := 0) fx.1 fx.2.1 dX11_whip_1 (by decide) ?_
  refine g_puti fx hw h0 lp_RX11_3 rfl rfl dX11_whip_2 hok (fun G1 H locs hw hok => ?_)
  refine lv_aload_n fx.1 fx.2.1 dX11_whip_5 rfl (lv_at hl 0 rfl) ?_
  refine lv_aload_n fx.1 fx.2.1 dX11_whip_6 rfl (lv_at hl 0 rfl) ?_
  refine lv_iload_n fx.1 fx.2.1 dX11_whip_7 rfl (lv_at hl 1 rfl) ?_
  obtain ⟨v2, hf, hok⟩ := gOk_bind hok
  refine g_callV0 (κ := 11) fx hw (c_X11_noRope l X τ x0 x1 G1 h0 hf) lv_RX11_321 ⟨rfl, rfl⟩ rfl rfl h0 rfl hl.1 rfl ⟨Nat.le_of_ble_eq_true rfl, Nat.le_of_ble_eq_true rfl⟩ (Nat.le_of_ble_eq_true rfl) ⟨Nat.le_of_ble_eq_true rfl, Nat.le_of_ble_eq_true rfl⟩ dX11_whip_8 (fun H locs hw => ?_)
  refine lv_iconst (v := 1) fx.1 fx.2.1 dX11_whip_11 (by decide) ?_
  obtain ⟨v3, G4, hf, hok⟩ := gOk_bind2 hok
  refine g_callV0 (κ := 11) fx hw (c_X11_throwsIf l X τ x0 v2 (1 : Int32) G1 h0 hf) lv_RX11_263 ⟨rfl, rfl⟩ rfl rfl h0 rfl hl.1 rfl ⟨Nat.le_of_ble_eq_true rfl, Nat.le_of_ble_eq_true rfl⟩ (Nat.le_of_ble_eq_true rfl) ⟨Nat.le_of_ble_eq_true rfl, Nat.le_of_ble_eq_true rfl⟩ dX11_whip_12 (fun H locs hw => ?_)
  refine g_if_ne (tgt := 39) fx dX11_whip_15 (by decide) hok (fun hok => ?_) (fun hok => ?_)
  · refine lv_aload_n fx.1 fx.2.1 dX11_whip_18 rfl (lv_at hl 0 rfl) ?_
    refine lv_aload_n fx.1 fx.2.1 dX11_whip_19 rfl (lv_at hl 0 rfl) ?_
    refine lv_iload_n fx.1 fx.2.1 dX11_whip_20 rfl (lv_at hl 1 rfl) ?_
    obtain ⟨v5, hf, hok⟩ := gOk_bind hok
    refine g_callV0 (κ := 11) fx hw (c_X11_isWhole l X τ x0 x1 G4 h0 hf) lv_RX11_146 ⟨rfl, rfl⟩ rfl rfl h0 rfl hl.1 rfl ⟨Nat.le_of_ble_eq_true rfl, Nat.le_of_ble_eq_true rfl⟩ (Nat.le_of_ble_eq_true rfl) ⟨Nat.le_of_ble_eq_true rfl, Nat.le_of_ble_eq_true rfl⟩ dX11_whip_21 (fun H locs hw => ?_)
    refine g_if_ne (tgt := 31) fx dX11_whip_24 (by decide) hok (fun hok => ?_) (fun hok => ?_)
    · refine lv_iconst (v := 1) fx.1 fx.2.1 dX11_whip_27 (by decide) ?_
      refine lv_goto (tgt := 32) fx.1 fx.2.1 dX11_whip_28 (by decide) ?_
      exact w_X11_whip_32 fx n x0 x1 x0 (1 : Int32) h0 h0 hr hw (lv_sub hl [0, 1] rfl) hok
    · refine lv_iconst (v := 0) fx.1 fx.2.1 dX11_whip_31 (by decide) ?_
      exact w_X11_whip_32 fx n x0 x1 x0 (0 : Int32) h0 h0 hr hw (lv_sub hl [0, 1] rfl) hok
  · refine lv_iconst (v := 0) fx.1 fx.2.1 dX11_whip_39 (by decide) ?_
    cases gOk_some hok
    exact g_zret fx hw hr (by decide) dX11_whip_40
theorem dX11_canDouble_0 : decode cX11_canDouble 0 = .ok (.aload_n 0, 1) := by decide +kernel
theorem dX11_canDouble_1 : decode cX11_canDouble 1 = .ok (.iload_n 1, 1) := by decide +kernel
theorem dX11_canDouble_2 : decode cX11_canDouble 2 = .ok (.invokevirtual 146, 3) := by decide +kernel
theorem dX11_canDouble_5 : decode cX11_canDouble 5 = .ok (.ifCond .eq 29, 3) := by decide +kernel
theorem dX11_canDouble_8 : decode cX11_canDouble 8 = .ok (.aload_n 0, 1) := by decide +kernel
theorem dX11_canDouble_9 : decode cX11_canDouble 9 = .ok (.iload_n 1, 1) := by decide +kernel
theorem dX11_canDouble_10 : decode cX11_canDouble 10 = .ok (.bipush 7, 2) := by decide +kernel
theorem dX11_canDouble_12 : decode cX11_canDouble 12 = .ok (.invokevirtual 62, 3) := by decide +kernel
theorem dX11_canDouble_15 : decode cX11_canDouble 15 = .ok (.bipush 8, 2) := by decide +kernel
theorem dX11_canDouble_17 : decode cX11_canDouble 17 = .ok (.if_icmp .ge 17, 3) := by decide +kernel
theorem dX11_canDouble_20 : decode cX11_canDouble 20 = .ok (.aload_n 0, 1) := by decide +kernel
theorem dX11_canDouble_21 : decode cX11_canDouble 21 = .ok (.iload_n 1, 1) := by decide +kernel
theorem dX11_canDouble_22 : decode cX11_canDouble 22 = .ok (.iconst 3, 1) := by decide +kernel
theorem dX11_canDouble_23 : decode cX11_canDouble 23 = .ok (.invokevirtual 62, 3) := by decide +kernel
theorem dX11_canDouble_26 : decode cX11_canDouble 26 = .ok (.iconst 2, 1) := by decide +kernel
theorem dX11_canDouble_27 : decode cX11_canDouble 27 = .ok (.if_icmp .lt 7, 3) := by decide +kernel
theorem dX11_canDouble_30 : decode cX11_canDouble 30 = .ok (.iconst 1, 1) := by decide +kernel
theorem dX11_canDouble_31 : decode cX11_canDouble 31 = .ok (.goto 4, 3) := by decide +kernel
theorem dX11_canDouble_34 : decode cX11_canDouble 34 = .ok (.iconst 0, 1) := by decide +kernel
theorem dX11_canDouble_35 : decode cX11_canDouble 35 = .ok (.ireturn, 1) := by decide +kernel
def rm_X11_canDouble : Room := { frames := 3, cells := 0, slots := 0, locals := 64 }
def f_X11_canDouble (τ : gτ) (x0 : Nat) (x1 : Int32) (G : gG) : Option (Int32) :=
  (f_X11_isWhole τ x0 x1 G).bind fun v1 =>
  if v1 = 0 then (some (0))
  else ((f_X11_of τ x0 x1 (7 : Int32) G).bind fun v2 =>
  if (8 : Int32) ≤ v2 then (some (0))
  else ((f_X11_of τ x0 x1 (3 : Int32) G).bind fun v3 =>
  if v3 < (2 : Int32) then (some (0))
  else (some (1))))
set_option maxHeartbeats 4000000 in
set_option maxRecDepth 100000 in
theorem c_X11_canDouble (l : Launch) (X : gX) (τ : gτ) (x0 : Nat) (x1 : Int32) (G : gG) (h0 : gK τ x0 11) {r : Int32}  (h : f_X11_canDouble τ x0 x1 G = some r) : gM l X τ yX11_canDouble cX11_canDouble 2 (some .boolean) rm_X11_canDouble [.ref x0, .int x1] G (some (.int r)) G := by
  refine g_body (by decide +kernel) (Nat.le_of_ble_eq_true rfl) ?_
  intro p e s m args below meth c ls fx hr hw hl
  have fx : gFx X p s m args meth c cX11_canDouble 2 RX11 := fx
  have hl : lv_has ls 2 [(0, .ref x0), (1, .int x1)] := hl
  have hok : gOk (f_X11_canDouble τ x0 x1 G) (fun q => q = r) := ⟨_, h, rfl⟩
  unfold f_X11_canDouble at hok
  show W p l e rm_X11_canDouble s m args below meth c s.heap [] 0 0 (MQ below (gQ X τ (some (.int r)) G) args s 0 0 (gFree X)) _
  refine lv_aload_n fx.1 fx.2.1 dX11_canDouble_0 rfl (lv_at hl 0 rfl) ?_
  refine lv_iload_n fx.1 fx.2.1 dX11_canDouble_1 rfl (lv_at hl 1 rfl) ?_
  obtain ⟨v1, hf, hok⟩ := gOk_bind hok
  refine g_callV0 (κ := 11) fx hw (c_X11_isWhole l X τ x0 x1 G h0 hf) lv_RX11_146 ⟨rfl, rfl⟩ rfl rfl h0 rfl hl.1 rfl ⟨Nat.le_of_ble_eq_true rfl, Nat.le_of_ble_eq_true rfl⟩ (Nat.le_of_ble_eq_true rfl) ⟨Nat.le_of_ble_eq_true rfl, Nat.le_of_ble_eq_true rfl⟩ dX11_canDouble_2 (fun H locs hw => ?_)
  refine g_if_eq (tgt := 34) fx dX11_canDouble_5 (by decide) hok (fun hok => ?_) (fun hok => ?_)
  · refine lv_iconst (v := 0) fx.1 fx.2.1 dX11_canDouble_34 (by decide) ?_
    cases gOk_some hok
    exact g_zret fx hw hr (by decide) dX11_canDouble_35
  · refine lv_aload_n fx.1 fx.2.1 dX11_canDouble_8 rfl (lv_at hl 0 rfl) ?_
    refine lv_iload_n fx.1 fx.2.1 dX11_canDouble_9 rfl (lv_at hl 1 rfl) ?_
    refine lv_bipush (v := 7) fx.1 fx.2.1 dX11_canDouble_10 (by decide) ?_
    obtain ⟨v2, hf, hok⟩ := gOk_bind hok
    refine g_callV0 (κ := 11) fx hw (c_X11_of l X τ x0 x1 (7 : Int32) G h0 hf) lv_RX11_62 ⟨rfl, rfl⟩ rfl rfl h0 rfl hl.1 rfl ⟨Nat.le_of_ble_eq_true rfl, Nat.le_of_ble_eq_true rfl⟩ (Nat.le_of_ble_eq_true rfl) ⟨Nat.le_of_ble_eq_true rfl, Nat.le_of_ble_eq_true rfl⟩ dX11_canDouble_12 (fun H locs hw => ?_)
    refine lv_bipush (v := 8) fx.1 fx.2.1 dX11_canDouble_15 (by decide) ?_
    refine g_icmp_ge (tgt := 34) fx dX11_canDouble_17 (by decide) hok (fun hok => ?_) (fun hok => ?_)
    · refine lv_iconst (v := 0) fx.1 fx.2.1 dX11_canDouble_34 (by decide) ?_
      cases gOk_some hok
      exact g_zret fx hw hr (by decide) dX11_canDouble_35
    · refine lv_aload_n fx.1 fx.2.1 dX11_canDouble_20 rfl (lv_at hl 0 rfl) ?_
      refine lv_iload_n fx.1 fx.2.1 dX11_canDouble_21 rfl (lv_at hl 1 rfl) ?_
      refine lv_iconst (v := 3) fx.1 fx.2.1 dX11_canDouble_22 (by decide) ?_
      obtain ⟨v3, hf, hok⟩ := gOk_bind hok
      refine g_callV0 (κ := 11) fx hw (c_X11_of l X τ x0 x1 (3 : Int32) G h0 hf) lv_RX11_62 ⟨rfl, rfl⟩ rfl rfl h0 rfl hl.1 rfl ⟨Nat.le_of_ble_eq_true rfl, Nat.le_of_ble_eq_true rfl⟩ (Nat.le_of_ble_eq_true rfl) ⟨Nat.le_of_ble_eq_true rfl, Nat.le_of_ble_eq_true rfl⟩ dX11_canDouble_23 (fun H locs hw => ?_)
      refine lv_iconst (v := 2) fx.1 fx.2.1 dX11_canDouble_26 (by decide) ?_
      refine g_icmp_lt (tgt := 34) fx dX11_canDouble_27 (by decide) hok (fun hok => ?_) (fun hok => ?_)
      · refine lv_iconst (v := 0) fx.1 fx.2.1 dX11_canDouble_34 (by decide) ?_
        cases gOk_some hok
        exact g_zret fx hw hr (by decide) dX11_canDouble_35
      · refine lv_iconst (v := 1) fx.1 fx.2.1 dX11_canDouble_30 (by decide) ?_
        refine lv_goto (tgt := 35) fx.1 fx.2.1 dX11_canDouble_31 (by decide) ?_
        cases gOk_some hok
        exact g_zret fx hw hr (by decide) dX11_canDouble_35
theorem dX11_doubles_0 : decode cX11_doubles 0 = .ok (.aload_n 0, 1) := by decide +kernel
theorem dX11_doubles_1 : decode cX11_doubles 1 = .ok (.getfield 13, 3) := by decide +kernel
theorem dX11_doubles_4 : decode cX11_doubles 4 = .ok (.iload_n 1, 1) := by decide +kernel
theorem dX11_doubles_5 : decode cX11_doubles 5 = .ok (.bipush 7, 2) := by decide +kernel
theorem dX11_doubles_7 : decode cX11_doubles 7 = .ok (.invokestatic 59, 3) := by decide +kernel
theorem dX11_doubles_10 : decode cX11_doubles 10 = .ok (.dup2, 1) := by decide +kernel
theorem dX11_doubles_11 : decode cX11_doubles 11 = .ok (.iaload, 1) := by decide +kernel
theorem dX11_doubles_12 : decode cX11_doubles 12 = .ok (.iconst 2, 1) := by decide +kernel
theorem dX11_doubles_13 : decode cX11_doubles 13 = .ok (.imul, 1) := by decide +kernel
theorem dX11_doubles_14 : decode cX11_doubles 14 = .ok (.iastore, 1) := by decide +kernel
theorem dX11_doubles_15 : decode cX11_doubles 15 = .ok (.aload_n 0, 1) := by decide +kernel
theorem dX11_doubles_16 : decode cX11_doubles 16 = .ok (.getfield 13, 3) := by decide +kernel
theorem dX11_doubles_19 : decode cX11_doubles 19 = .ok (.iload_n 1, 1) := by decide +kernel
theorem dX11_doubles_20 : decode cX11_doubles 20 = .ok (.iconst 3, 1) := by decide +kernel
theorem dX11_doubles_21 : decode cX11_doubles 21 = .ok (.invokestatic 59, 3) := by decide +kernel
theorem dX11_doubles_24 : decode cX11_doubles 24 = .ok (.dup2, 1) := by decide +kernel
theorem dX11_doubles_25 : decode cX11_doubles 25 = .ok (.iaload, 1) := by decide +kernel
theorem dX11_doubles_26 : decode cX11_doubles 26 = .ok (.iconst 2, 1) := by decide +kernel
theorem dX11_doubles_27 : decode cX11_doubles 27 = .ok (.idiv, 1) := by decide +kernel
theorem dX11_doubles_28 : decode cX11_doubles 28 = .ok (.iastore, 1) := by decide +kernel
theorem dX11_doubles_29 : decode cX11_doubles 29 = .ok (.return_, 1) := by decide +kernel
def rm_X11_doubles : Room := { frames := 1, cells := 0, slots := 0, locals := 21 }
def f_X11_doubles (τ : gτ) (x0 : Nat) (x1 : Int32) (G : gG) : Option (gG) :=
  (gr G 11 1 x0).bind fun a1 =>
  (f_X11_at x1 (7 : Int32)).bind fun v2 =>
  gchk (gIn v2 (gn τ a1)) <|
  gchk (gIn v2 (gn τ a1)) <| gLet (gse G a1 (Int32.toNatClampNeg v2) ((ge G a1 (Int32.toNatClampNeg v2)) * (2 : Int32))) fun G3 =>
  (gr G3 11 1 x0).bind fun a4 =>
  (f_X11_at x1 (3 : Int32)).bind fun v5 =>
  gchk (gIn v5 (gn τ a4)) <|
  gchk (gIn v5 (gn τ a4)) <| gLet (gse G3 a4 (Int32.toNatClampNeg v5) ((ge G3 a4 (Int32.toNatClampNeg v5)) / (2 : Int32))) fun G6 =>
  some G6
set_option maxHeartbeats 4000000 in
set_option maxRecDepth 100000 in
theorem c_X11_doubles (l : Launch) (X : gX) (τ : gτ) (x0 : Nat) (x1 : Int32) (G : gG) (h0 : gK τ x0 11) {G' : gG} (h : f_X11_doubles τ x0 x1 G = some G') : gM l X τ yX11_doubles cX11_doubles 2 none rm_X11_doubles [.ref x0, .int x1] G none G' := by
  refine g_body (by decide +kernel) (Nat.le_of_ble_eq_true rfl) ?_
  intro p e s m args below meth c ls fx hr hw hl
  have fx : gFx X p s m args meth c cX11_doubles 2 RX11 := fx
  have hl : lv_has ls 2 [(0, .ref x0), (1, .int x1)] := hl
  have hok : gOk (f_X11_doubles τ x0 x1 G) (fun q => q = G') := ⟨_, h, rfl⟩
  unfold f_X11_doubles at hok
  show W p l e rm_X11_doubles s m args below meth c s.heap [] 0 0 (MQ below (gQ X τ none G') args s 0 0 (gFree X)) _
  refine lv_aload_n fx.1 fx.2.1 dX11_doubles_0 rfl (lv_at hl 0 rfl) ?_
  refine g_getr fx hw h0 lf_RX11_13 rfl dX11_doubles_1 hok (fun a1 h_a1 hok => ?_)
  refine lv_iload_n fx.1 fx.2.1 dX11_doubles_4 rfl (lv_at hl 1 rfl) ?_
  refine lv_bipush (v := 7) fx.1 fx.2.1 dX11_doubles_5 (by decide) ?_
  obtain ⟨v2, hf, hok⟩ := gOk_bind hok
  refine g_callS0 fx hw (c_X11_at l X τ x1 (7 : Int32) G  hf) ls_RX11_59 ⟨rfl, rfl⟩ rfl hl.1 rfl ⟨Nat.le_of_ble_eq_true rfl, Nat.le_of_ble_eq_true rfl⟩ (Nat.le_of_ble_eq_true rfl) ⟨Nat.le_of_ble_eq_true rfl, Nat.le_of_ble_eq_true rfl⟩ dX11_doubles_7 (fun H locs hw => ?_)
  refine lv_dup2_11 fx.1 fx.2.1 dX11_doubles_10 rfl rfl ?_
  refine g_iald fx hw h_a1 dX11_doubles_11 hok (fun hok => ?_)
  refine lv_iconst (v := 2) fx.1 fx.2.1 dX11_doubles_12 (by decide) ?_
  refine lv_imul fx.1 fx.2.1 dX11_doubles_13 ?_
  refine g_iast fx hw h_a1 dX11_doubles_14 hok (fun G3 H locs hw hok => ?_)
  refine lv_aload_n fx.1 fx.2.1 dX11_doubles_15 rfl (lv_at hl 0 rfl) ?_
  refine g_getr fx hw h0 lf_RX11_13 rfl dX11_doubles_16 hok (fun a4 h_a4 hok => ?_)
  refine lv_iload_n fx.1 fx.2.1 dX11_doubles_19 rfl (lv_at hl 1 rfl) ?_
  refine lv_iconst (v := 3) fx.1 fx.2.1 dX11_doubles_20 (by decide) ?_
  obtain ⟨v5, hf, hok⟩ := gOk_bind hok
  refine g_callS0 fx hw (c_X11_at l X τ x1 (3 : Int32) G3  hf) ls_RX11_59 ⟨rfl, rfl⟩ rfl hl.1 rfl ⟨Nat.le_of_ble_eq_true rfl, Nat.le_of_ble_eq_true rfl⟩ (Nat.le_of_ble_eq_true rfl) ⟨Nat.le_of_ble_eq_true rfl, Nat.le_of_ble_eq_true rfl⟩ dX11_doubles_21 (fun H locs hw => ?_)
  refine lv_dup2_11 fx.1 fx.2.1 dX11_doubles_24 rfl rfl ?_
  refine g_iald fx hw h_a4 dX11_doubles_25 hok (fun hok => ?_)
  refine lv_iconst (v := 2) fx.1 fx.2.1 dX11_doubles_26 (by decide) ?_
  refine lv_idiv fx.1 fx.2.1 dX11_doubles_27 (by decide) ?_
  refine g_iast fx hw h_a4 dX11_doubles_28 hok (fun G6 H locs hw hok => ?_)
  cases gOk_some hok
  exact g_vret fx hw hr dX11_doubles_29
theorem dX11_twice_0 : decode cX11_twice 0 = .ok (.aload_n 0, 1) := by decide +kernel
theorem dX11_twice_1 : decode cX11_twice 1 = .ok (.iconst 0, 1) := by decide +kernel
theorem dX11_twice_2 : decode cX11_twice 2 = .ok (.putfield 3, 3) := by decide +kernel
theorem dX11_twice_5 : decode cX11_twice 5 = .ok (.aload_n 0, 1) := by decide +kernel
theorem dX11_twice_6 : decode cX11_twice 6 = .ok (.aload_n 0, 1) := by decide +kernel
theorem dX11_twice_7 : decode cX11_twice 7 = .ok (.iload_n 1, 1) := by decide +kernel
theorem dX11_twice_8 : decode cX11_twice 8 = .ok (.invokevirtual 321, 3) := by decide +kernel
theorem dX11_twice_11 : decode cX11_twice 11 = .ok (.iconst 1, 1) := by decide +kernel
theorem dX11_twice_12 : decode cX11_twice 12 = .ok (.invokevirtual 263, 3) := by decide +kernel
theorem dX11_twice_15 : decode cX11_twice 15 = .ok (.ifCond .ne 24, 3) := by decide +kernel
theorem dX11_twice_18 : decode cX11_twice 18 = .ok (.aload_n 0, 1) := by decide +kernel
theorem dX11_twice_19 : decode cX11_twice 19 = .ok (.aload_n 0, 1) := by decide +kernel
theorem dX11_twice_20 : decode cX11_twice 20 = .ok (.iload_n 1, 1) := by decide +kernel
theorem dX11_twice_21 : decode cX11_twice 21 = .ok (.invokevirtual 353, 3) := by decide +kernel
theorem dX11_twice_24 : decode cX11_twice 24 = .ok (.ifCond .ne 7, 3) := by decide +kernel
theorem dX11_twice_27 : decode cX11_twice 27 = .ok (.iconst 1, 1) := by decide +kernel
theorem dX11_twice_28 : decode cX11_twice 28 = .ok (.goto 4, 3) := by decide +kernel
theorem dX11_twice_31 : decode cX11_twice 31 = .ok (.iconst 0, 1) := by decide +kernel
theorem dX11_twice_32 : decode cX11_twice 32 = .ok (.iconst 2, 1) := by decide +kernel
theorem dX11_twice_33 : decode cX11_twice 33 = .ok (.invokevirtual 263, 3) := by decide +kernel
theorem dX11_twice_36 : decode cX11_twice 36 = .ok (.ifCond .eq 5, 3) := by decide +kernel
theorem dX11_twice_39 : decode cX11_twice 39 = .ok (.iconst 0, 1) := by decide +kernel
theorem dX11_twice_40 : decode cX11_twice 40 = .ok (.ireturn, 1) := by decide +kernel
theorem dX11_twice_41 : decode cX11_twice 41 = .ok (.aload_n 0, 1) := by decide +kernel
theorem dX11_twice_42 : decode cX11_twice 42 = .ok (.invokevirtual 346, 3) := by decide +kernel
theorem dX11_twice_45 : decode cX11_twice 45 = .ok (.aload_n 0, 1) := by decide +kernel
theorem dX11_twice_46 : decode cX11_twice 46 = .ok (.iload_n 1, 1) := by decide +kernel
theorem dX11_twice_47 : decode cX11_twice 47 = .ok (.invokevirtual 356, 3) := by decide +kernel
theorem dX11_twice_50 : decode cX11_twice 50 = .ok (.aload_n 0, 1) := by decide +kernel
theorem dX11_twice_51 : decode cX11_twice 51 = .ok (.iload_n 1, 1) := by decide +kernel
theorem dX11_twice_52 : decode cX11_twice 52 = .ok (.bipush 7, 2) := by decide +kernel
theorem dX11_twice_54 : decode cX11_twice 54 = .ok (.invokevirtual 62, 3) := by decide +kernel
theorem dX11_twice_57 : decode cX11_twice 57 = .ok (.ireturn, 1) := by decide +kernel
theorem lv_RX11_353 : gLv RX11 353 RX11 yX11_canDouble cX11_canDouble 2 (some .boolean) 1 := gLv_of (wA_t (wt8 (List.mem_of_getElem? (i := 133) (by decide +kernel))) (by decide +kernel)) (wA_t (wt8 (List.mem_of_getElem? (i := 135) (by decide +kernel))) (by decide +kernel)) (wA_of (List.mem_append_left _ (List.mem_map.mpr ⟨(⟨"YearRopeModel", "canDouble", "(I)Z"⟩, 20), wp7 (List.mem_of_getElem? (i := 3) (by decide +kernel)), rfl⟩)) (by decide +kernel)) (wA_t (wt1 (List.mem_of_getElem? (i := 12) (by decide +kernel))) (by decide +kernel)) (wA_t (wt8 (List.mem_of_getElem? (i := 136) (by decide +kernel))) (by decide +kernel)) ⟨rfl, by decide +kernel, by decide +kernel, by decide +kernel⟩
theorem lv_RX11_356 : gLv RX11 356 RX11 yX11_doubles cX11_doubles 2 none 1 := gLv_of (wA_t (wt8 (List.mem_of_getElem? (i := 137) (by decide +kernel))) (by decide +kernel)) (wA_t (wt8 (List.mem_of_getElem? (i := 139) (by decide +kernel))) (by decide +kernel)) (wA_of (List.mem_append_left _ (List.mem_map.mpr ⟨(⟨"YearRopeModel", "doubles", "(I)V"⟩, 20), wp7 (List.mem_of_getElem? (i := 4) (by decide +kernel)), rfl⟩)) (by decide +kernel)) (wA_t (wt1 (List.mem_of_getElem? (i := 12) (by decide +kernel))) (by decide +kernel)) (wA_t (wt8 (List.mem_of_getElem? (i := 140) (by decide +kernel))) (by decide +kernel)) ⟨rfl, by decide +kernel, by decide +kernel, by decide +kernel⟩
def rm_X11_twice : Room := { frames := 4, cells := 0, slots := 0, locals := 85 }
def k_X11_twice_32 (τ : gτ) (n : Nat) (x0 : Nat) (x1 : Int32) (s0 : Nat) (s1 : Int32) (G : gG) : Option (Int32 × gG) :=
  gBind2 (f_X11_throwsIf s0 s1 (2 : Int32) G) fun v6 G7 =>
  if v6 = 0 then ((f_X11_remembers τ n x0 G7).bind fun G8 =>
  (f_X11_doubles τ x0 x1 G8).bind fun G9 =>
  (f_X11_of τ x0 x1 (7 : Int32) G9).bind fun v10 =>
  some (v10, G9))
  else (some (0, G7))
def f_X11_twice (τ : gτ) (n : Nat) (x0 : Nat) (x1 : Int32) (G : gG) : Option (Int32 × gG) :=
  gLet (gsi G 11 0 x0 (0 : Int32)) fun G1 =>
  (f_X11_noRope τ x0 x1 G1).bind fun v2 =>
  gBind2 (f_X11_throwsIf x0 v2 (1 : Int32) G1) fun v3 G4 =>
  if v3 = 0 then ((f_X11_canDouble τ x0 x1 G4).bind fun v5 =>
  if v5 = 0 then (k_X11_twice_32 τ n x0 x1 x0 (1 : Int32) G4)
  else (k_X11_twice_32 τ n x0 x1 x0 (0 : Int32) G4))
  else (some (0, G4))
set_option maxHeartbeats 4000000 in
set_option maxRecDepth 100000 in
theorem w_X11_twice_32 {X : gX} {τ : gτ} {p : Program} {l : Launch} {e : Env} {s : State} {m : MethodId} {args : Array Value} {below : List Frame} {meth : Method} {c : Code} (fx : gFx X p s m args meth c cX11_twice 2 RX11) (n : Nat) (x0 : Nat) (x1 : Int32) (s0 : Nat) (s1 : Int32) (h0 : gK τ x0 11) (hs0 : gK τ s0 11) (hr : meth.sig.returnType = (some .int)) {r : Int32} {G' : gG} {G : gG} {H : Heap} {locs : List Loc} {ls : Array Slot} (hw : gHw X τ G H locs) (hl : lv_has ls 2 [(0, .ref x0), (1, .int x1)]) (hok : gOk (k_X11_twice_32 τ n x0 x1 s0 s1 G) (fun q => q = (r, G')))  : W p l e rm_X11_twice s m args below meth c H locs 0 0 (MQ below (gQ X τ (some (.int r)) G') args s 0 0 (gFree X)) (F0 m 32 ls [.int s1, .ref s0]) := by
  unfold k_X11_twice_32 at hok
  refine lv_iconst (v := 2) fx.1 fx.2.1 dX11_twice_32 (by decide) ?_
  obtain ⟨v6, G7, hf, hok⟩ := gOk_bind2 hok
  refine g_callV0 (κ := 11) fx hw (c_X11_throwsIf l X τ s0 s1 (2 : Int32) G hs0 hf) lv_RX11_263 ⟨rfl, rfl⟩ rfl rfl hs0 rfl hl.1 rfl ⟨Nat.le_of_ble_eq_true rfl, Nat.le_of_ble_eq_true rfl⟩ (Nat.le_of_ble_eq_true rfl) ⟨Nat.le_of_ble_eq_true rfl, Nat.le_of_ble_eq_true rfl⟩ dX11_twice_33 (fun H locs hw => ?_)
  refine g_if_eq (tgt := 41) fx dX11_twice_36 (by decide) hok (fun hok => ?_) (fun hok => ?_)
  · refine lv_aload_n fx.1 fx.2.1 dX11_twice_41 rfl (lv_at hl 0 rfl) ?_
    obtain ⟨G8, hf, hok⟩ := gOk_bind hok
    refine g_callV0 (κ := 11) fx hw (c_X11_remembers l X τ n x0 G7 h0 hf) lv_RX11_346 ⟨rfl, rfl⟩ rfl rfl h0 rfl hl.1 rfl ⟨Nat.le_of_ble_eq_true rfl, Nat.le_of_ble_eq_true rfl⟩ (Nat.le_of_ble_eq_true rfl) ⟨Nat.le_of_ble_eq_true rfl, Nat.le_of_ble_eq_true rfl⟩ dX11_twice_42 (fun H locs hw => ?_)
    refine lv_aload_n fx.1 fx.2.1 dX11_twice_45 rfl (lv_at hl 0 rfl) ?_
    refine lv_iload_n fx.1 fx.2.1 dX11_twice_46 rfl (lv_at hl 1 rfl) ?_
    obtain ⟨G9, hf, hok⟩ := gOk_bind hok
    refine g_callV0 (κ := 11) fx hw (c_X11_doubles l X τ x0 x1 G8 h0 hf) lv_RX11_356 ⟨rfl, rfl⟩ rfl rfl h0 rfl hl.1 rfl ⟨Nat.le_of_ble_eq_true rfl, Nat.le_of_ble_eq_true rfl⟩ (Nat.le_of_ble_eq_true rfl) ⟨Nat.le_of_ble_eq_true rfl, Nat.le_of_ble_eq_true rfl⟩ dX11_twice_47 (fun H locs hw => ?_)
    refine lv_aload_n fx.1 fx.2.1 dX11_twice_50 rfl (lv_at hl 0 rfl) ?_
    refine lv_iload_n fx.1 fx.2.1 dX11_twice_51 rfl (lv_at hl 1 rfl) ?_
    refine lv_bipush (v := 7) fx.1 fx.2.1 dX11_twice_52 (by decide) ?_
    obtain ⟨v10, hf, hok⟩ := gOk_bind hok
    refine g_callV0 (κ := 11) fx hw (c_X11_of l X τ x0 x1 (7 : Int32) G9 h0 hf) lv_RX11_62 ⟨rfl, rfl⟩ rfl rfl h0 rfl hl.1 rfl ⟨Nat.le_of_ble_eq_true rfl, Nat.le_of_ble_eq_true rfl⟩ (Nat.le_of_ble_eq_true rfl) ⟨Nat.le_of_ble_eq_true rfl, Nat.le_of_ble_eq_true rfl⟩ dX11_twice_54 (fun H locs hw => ?_)
    cases gOk_some hok
    exact g_iret fx hw hr dX11_twice_57
  · refine lv_iconst (v := 0) fx.1 fx.2.1 dX11_twice_39 (by decide) ?_
    cases gOk_some hok
    exact g_iret fx hw hr dX11_twice_40
set_option maxHeartbeats 4000000 in
set_option maxRecDepth 100000 in
theorem c_X11_twice (l : Launch) (X : gX) (τ : gτ) (n : Nat) (x0 : Nat) (x1 : Int32) (G : gG) (h0 : gK τ x0 11) {r : Int32} {G' : gG} (h : f_X11_twice τ n x0 x1 G = some (r, G')) : gM l X τ yX11_twice cX11_twice 2 (some .int) rm_X11_twice [.ref x0, .int x1] G (some (.int r)) G' := by
  refine g_body (by decide +kernel) (Nat.le_of_ble_eq_true rfl) ?_
  intro p e s m args below meth c ls fx hr hw hl
  have fx : gFx X p s m args meth c cX11_twice 2 RX11 := fx
  have hl : lv_has ls 2 [(0, .ref x0), (1, .int x1)] := hl
  have hok : gOk (f_X11_twice τ n x0 x1 G) (fun q => q = (r, G')) := ⟨_, h, rfl⟩
  unfold f_X11_twice at hok
  show W p l e rm_X11_twice s m args below meth c s.heap [] 0 0 (MQ below (gQ X τ (some (.int r)) G') args s 0 0 (gFree X)) _
  refine lv_aload_n fx.1 fx.2.1 dX11_twice_0 rfl (lv_at hl 0 rfl) ?_
  refine lv_iconst (v := 0) fx.1 fx.2.1 dX11_twice_1 (by decide) ?_
  refine g_puti fx hw h0 lp_RX11_3 rfl rfl dX11_twice_2 hok (fun G1 H locs hw hok => ?_)
  refine lv_aload_n fx.1 fx.2.1 dX11_twice_5 rfl (lv_at hl 0 rfl) ?_
  refine lv_aload_n fx.1 fx.2.1 dX11_twice_6 rfl (lv_at hl 0 rfl) ?_
  refine lv_iload_n fx.1 fx.2.1 dX11_twice_7 rfl (lv_at hl 1 rfl) ?_
  obtain ⟨v2, hf, hok⟩ := gOk_bind hok
  refine g_callV0 (κ := 11) fx hw (c_X11_noRope l X τ x0 x1 G1 h0 hf) lv_RX11_321 ⟨rfl, rfl⟩ rfl rfl h0 rfl hl.1 rfl ⟨Nat.le_of_ble_eq_true rfl, Nat.le_of_ble_eq_true rfl⟩ (Nat.le_of_ble_eq_true rfl) ⟨Nat.le_of_ble_eq_true rfl, Nat.le_of_ble_eq_true rfl⟩ dX11_twice_8 (fun H locs hw => ?_)
  refine lv_iconst (v := 1) fx.1 fx.2.1 dX11_twice_11 (by decide) ?_
  obtain ⟨v3, G4, hf, hok⟩ := gOk_bind2 hok
  refine g_callV0 (κ := 11) fx hw (c_X11_throwsIf l X τ x0 v2 (1 : Int32) G1 h0 hf) lv_RX11_263 ⟨rfl, rfl⟩ rfl rfl h0 rfl hl.1 rfl ⟨Nat.le_of_ble_eq_true rfl, Nat.le_of_ble_eq_true rfl⟩ (Nat.le_of_ble_eq_true rfl) ⟨Nat.le_of_ble_eq_true rfl, Nat.le_of_ble_eq_true rfl⟩ dX11_twice_12 (fun H locs hw => ?_)
  refine g_if_ne (tgt := 39) fx dX11_twice_15 (by decide) hok (fun hok => ?_) (fun hok => ?_)
  · refine lv_aload_n fx.1 fx.2.1 dX11_twice_18 rfl (lv_at hl 0 rfl) ?_
    refine lv_aload_n fx.1 fx.2.1 dX11_twice_19 rfl (lv_at hl 0 rfl) ?_
    refine lv_iload_n fx.1 fx.2.1 dX11_twice_20 rfl (lv_at hl 1 rfl) ?_
    obtain ⟨v5, hf, hok⟩ := gOk_bind hok
    refine g_callV0 (κ := 11) fx hw (c_X11_canDouble l X τ x0 x1 G4 h0 hf) lv_RX11_353 ⟨rfl, rfl⟩ rfl rfl h0 rfl hl.1 rfl ⟨Nat.le_of_ble_eq_true rfl, Nat.le_of_ble_eq_true rfl⟩ (Nat.le_of_ble_eq_true rfl) ⟨Nat.le_of_ble_eq_true rfl, Nat.le_of_ble_eq_true rfl⟩ dX11_twice_21 (fun H locs hw => ?_)
    refine g_if_ne (tgt := 31) fx dX11_twice_24 (by decide) hok (fun hok => ?_) (fun hok => ?_)
    · refine lv_iconst (v := 1) fx.1 fx.2.1 dX11_twice_27 (by decide) ?_
      refine lv_goto (tgt := 32) fx.1 fx.2.1 dX11_twice_28 (by decide) ?_
      exact w_X11_twice_32 fx n x0 x1 x0 (1 : Int32) h0 h0 hr hw (lv_sub hl [0, 1] rfl) hok
    · refine lv_iconst (v := 0) fx.1 fx.2.1 dX11_twice_31 (by decide) ?_
      exact w_X11_twice_32 fx n x0 x1 x0 (0 : Int32) h0 h0 hr hw (lv_sub hl [0, 1] rfl) hok
  · refine lv_iconst (v := 0) fx.1 fx.2.1 dX11_twice_39 (by decide) ?_
    cases gOk_some hok
    exact g_iret fx hw hr dX11_twice_40
theorem dX11_cut_0 : decode cX11_cut 0 = .ok (.aload_n 0, 1) := by decide +kernel
theorem dX11_cut_1 : decode cX11_cut 1 = .ok (.iconst 0, 1) := by decide +kernel
theorem dX11_cut_2 : decode cX11_cut 2 = .ok (.putfield 3, 3) := by decide +kernel
theorem dX11_cut_5 : decode cX11_cut 5 = .ok (.aload_n 0, 1) := by decide +kernel
theorem dX11_cut_6 : decode cX11_cut 6 = .ok (.aload_n 0, 1) := by decide +kernel
theorem dX11_cut_7 : decode cX11_cut 7 = .ok (.iload_n 1, 1) := by decide +kernel
theorem dX11_cut_8 : decode cX11_cut 8 = .ok (.invokevirtual 321, 3) := by decide +kernel
theorem dX11_cut_11 : decode cX11_cut 11 = .ok (.iconst 1, 1) := by decide +kernel
theorem dX11_cut_12 : decode cX11_cut 12 = .ok (.invokevirtual 263, 3) := by decide +kernel
theorem dX11_cut_15 : decode cX11_cut 15 = .ok (.ifCond .ne 75, 3) := by decide +kernel
theorem dX11_cut_18 : decode cX11_cut 18 = .ok (.aload_n 0, 1) := by decide +kernel
theorem dX11_cut_19 : decode cX11_cut 19 = .ok (.iload_n 2, 1) := by decide +kernel
theorem dX11_cut_20 : decode cX11_cut 20 = .ok (.iconst 1, 1) := by decide +kernel
theorem dX11_cut_21 : decode cX11_cut 21 = .ok (.aload_n 0, 1) := by decide +kernel
theorem dX11_cut_22 : decode cX11_cut 22 = .ok (.iload_n 1, 1) := by decide +kernel
theorem dX11_cut_23 : decode cX11_cut 23 = .ok (.iconst 3, 1) := by decide +kernel
theorem dX11_cut_24 : decode cX11_cut 24 = .ok (.invokevirtual 62, 3) := by decide +kernel
theorem dX11_cut_27 : decode cX11_cut 27 = .ok (.iconst 1, 1) := by decide +kernel
theorem dX11_cut_28 : decode cX11_cut 28 = .ok (.isub, 1) := by decide +kernel
theorem dX11_cut_29 : decode cX11_cut 29 = .ok (.invokestatic 69, 3) := by decide +kernel
theorem dX11_cut_32 : decode cX11_cut 32 = .ok (.ifCond .ne 7, 3) := by decide +kernel
theorem dX11_cut_35 : decode cX11_cut 35 = .ok (.iconst 1, 1) := by decide +kernel
theorem dX11_cut_36 : decode cX11_cut 36 = .ok (.goto 4, 3) := by decide +kernel
theorem dX11_cut_39 : decode cX11_cut 39 = .ok (.iconst 0, 1) := by decide +kernel
theorem dX11_cut_40 : decode cX11_cut 40 = .ok (.iconst 2, 1) := by decide +kernel
theorem dX11_cut_41 : decode cX11_cut 41 = .ok (.invokevirtual 263, 3) := by decide +kernel
theorem dX11_cut_44 : decode cX11_cut 44 = .ok (.ifCond .ne 46, 3) := by decide +kernel
theorem dX11_cut_47 : decode cX11_cut 47 = .ok (.aload_n 0, 1) := by decide +kernel
theorem dX11_cut_48 : decode cX11_cut 48 = .ok (.aload_n 0, 1) := by decide +kernel
theorem dX11_cut_49 : decode cX11_cut 49 = .ok (.iload_n 1, 1) := by decide +kernel
theorem dX11_cut_50 : decode cX11_cut 50 = .ok (.invokevirtual 146, 3) := by decide +kernel
theorem dX11_cut_53 : decode cX11_cut 53 = .ok (.ifCond .ne 7, 3) := by decide +kernel
theorem dX11_cut_56 : decode cX11_cut 56 = .ok (.iconst 1, 1) := by decide +kernel
theorem dX11_cut_57 : decode cX11_cut 57 = .ok (.goto 4, 3) := by decide +kernel
theorem dX11_cut_60 : decode cX11_cut 60 = .ok (.iconst 0, 1) := by decide +kernel
theorem dX11_cut_61 : decode cX11_cut 61 = .ok (.iconst 3, 1) := by decide +kernel
theorem dX11_cut_62 : decode cX11_cut 62 = .ok (.invokevirtual 263, 3) := by decide +kernel
theorem dX11_cut_65 : decode cX11_cut 65 = .ok (.ifCond .ne 25, 3) := by decide +kernel
theorem dX11_cut_68 : decode cX11_cut 68 = .ok (.aload_n 0, 1) := by decide +kernel
theorem dX11_cut_69 : decode cX11_cut 69 = .ok (.aload_n 0, 1) := by decide +kernel
theorem dX11_cut_70 : decode cX11_cut 70 = .ok (.invokevirtual 73, 3) := by decide +kernel
theorem dX11_cut_73 : decode cX11_cut 73 = .ok (.bipush 8, 2) := by decide +kernel
theorem dX11_cut_75 : decode cX11_cut 75 = .ok (.if_icmp .ne 7, 3) := by decide +kernel
theorem dX11_cut_78 : decode cX11_cut 78 = .ok (.iconst 1, 1) := by decide +kernel
theorem dX11_cut_79 : decode cX11_cut 79 = .ok (.goto 4, 3) := by decide +kernel
theorem dX11_cut_82 : decode cX11_cut 82 = .ok (.iconst 0, 1) := by decide +kernel
theorem dX11_cut_83 : decode cX11_cut 83 = .ok (.iconst 4, 1) := by decide +kernel
theorem dX11_cut_84 : decode cX11_cut 84 = .ok (.invokevirtual 263, 3) := by decide +kernel
theorem dX11_cut_87 : decode cX11_cut 87 = .ok (.ifCond .eq 5, 3) := by decide +kernel
theorem dX11_cut_90 : decode cX11_cut 90 = .ok (.iconst 0, 1) := by decide +kernel
theorem dX11_cut_91 : decode cX11_cut 91 = .ok (.ireturn, 1) := by decide +kernel
theorem dX11_cut_92 : decode cX11_cut 92 = .ok (.aload_n 0, 1) := by decide +kernel
theorem dX11_cut_93 : decode cX11_cut 93 = .ok (.invokevirtual 346, 3) := by decide +kernel
theorem dX11_cut_96 : decode cX11_cut 96 = .ok (.aload_n 0, 1) := by decide +kernel
theorem dX11_cut_97 : decode cX11_cut 97 = .ok (.invokevirtual 73, 3) := by decide +kernel
theorem dX11_cut_100 : decode cX11_cut 100 = .ok (.istore_n 3, 1) := by decide +kernel
theorem dX11_cut_101 : decode cX11_cut 101 = .ok (.iconst 0, 1) := by decide +kernel
theorem dX11_cut_102 : decode cX11_cut 102 = .ok (.istore 4, 2) := by decide +kernel
theorem dX11_cut_104 : decode cX11_cut 104 = .ok (.iload 4, 2) := by decide +kernel
theorem dX11_cut_106 : decode cX11_cut 106 = .ok (.bipush 10, 2) := by decide +kernel
theorem dX11_cut_108 : decode cX11_cut 108 = .ok (.if_icmp .ge 27, 3) := by decide +kernel
theorem dX11_cut_111 : decode cX11_cut 111 = .ok (.aload_n 0, 1) := by decide +kernel
theorem dX11_cut_112 : decode cX11_cut 112 = .ok (.getfield 13, 3) := by decide +kernel
theorem dX11_cut_115 : decode cX11_cut 115 = .ok (.iload_n 3, 1) := by decide +kernel
theorem dX11_cut_116 : decode cX11_cut 116 = .ok (.iload 4, 2) := by decide +kernel
theorem dX11_cut_118 : decode cX11_cut 118 = .ok (.invokestatic 59, 3) := by decide +kernel
theorem dX11_cut_121 : decode cX11_cut 121 = .ok (.aload_n 0, 1) := by decide +kernel
theorem dX11_cut_122 : decode cX11_cut 122 = .ok (.iload_n 1, 1) := by decide +kernel
theorem dX11_cut_123 : decode cX11_cut 123 = .ok (.iload 4, 2) := by decide +kernel
theorem dX11_cut_125 : decode cX11_cut 125 = .ok (.invokevirtual 62, 3) := by decide +kernel
theorem dX11_cut_128 : decode cX11_cut 128 = .ok (.iastore, 1) := by decide +kernel
theorem dX11_cut_129 : decode cX11_cut 129 = .ok (.iinc 4 1, 3) := by decide +kernel
theorem dX11_cut_132 : decode cX11_cut 132 = .ok (.goto (-28), 3) := by decide +kernel
theorem dX11_cut_135 : decode cX11_cut 135 = .ok (.aload_n 0, 1) := by decide +kernel
theorem dX11_cut_136 : decode cX11_cut 136 = .ok (.getfield 13, 3) := by decide +kernel
theorem dX11_cut_139 : decode cX11_cut 139 = .ok (.iload_n 3, 1) := by decide +kernel
theorem dX11_cut_140 : decode cX11_cut 140 = .ok (.iconst 3, 1) := by decide +kernel
theorem dX11_cut_141 : decode cX11_cut 141 = .ok (.invokestatic 59, 3) := by decide +kernel
theorem dX11_cut_144 : decode cX11_cut 144 = .ok (.iload_n 2, 1) := by decide +kernel
theorem dX11_cut_145 : decode cX11_cut 145 = .ok (.iastore, 1) := by decide +kernel
theorem dX11_cut_146 : decode cX11_cut 146 = .ok (.aload_n 0, 1) := by decide +kernel
theorem dX11_cut_147 : decode cX11_cut 147 = .ok (.getfield 13, 3) := by decide +kernel
theorem dX11_cut_150 : decode cX11_cut 150 = .ok (.iload_n 3, 1) := by decide +kernel
theorem dX11_cut_151 : decode cX11_cut 151 = .ok (.bipush 6, 2) := by decide +kernel
theorem dX11_cut_153 : decode cX11_cut 153 = .ok (.invokestatic 59, 3) := by decide +kernel
theorem dX11_cut_156 : decode cX11_cut 156 = .ok (.iconst 0, 1) := by decide +kernel
theorem dX11_cut_157 : decode cX11_cut 157 = .ok (.iastore, 1) := by decide +kernel
theorem dX11_cut_158 : decode cX11_cut 158 = .ok (.aload_n 0, 1) := by decide +kernel
theorem dX11_cut_159 : decode cX11_cut 159 = .ok (.getfield 13, 3) := by decide +kernel
theorem dX11_cut_162 : decode cX11_cut 162 = .ok (.iload_n 3, 1) := by decide +kernel
theorem dX11_cut_163 : decode cX11_cut 163 = .ok (.bipush 9, 2) := by decide +kernel
theorem dX11_cut_165 : decode cX11_cut 165 = .ok (.invokestatic 59, 3) := by decide +kernel
theorem dX11_cut_168 : decode cX11_cut 168 = .ok (.iconst 0, 1) := by decide +kernel
theorem dX11_cut_169 : decode cX11_cut 169 = .ok (.iastore, 1) := by decide +kernel
theorem dX11_cut_170 : decode cX11_cut 170 = .ok (.aload_n 0, 1) := by decide +kernel
theorem dX11_cut_171 : decode cX11_cut 171 = .ok (.getfield 13, 3) := by decide +kernel
theorem dX11_cut_174 : decode cX11_cut 174 = .ok (.iload_n 1, 1) := by decide +kernel
theorem dX11_cut_175 : decode cX11_cut 175 = .ok (.iconst 3, 1) := by decide +kernel
theorem dX11_cut_176 : decode cX11_cut 176 = .ok (.invokestatic 59, 3) := by decide +kernel
theorem dX11_cut_179 : decode cX11_cut 179 = .ok (.dup2, 1) := by decide +kernel
theorem dX11_cut_180 : decode cX11_cut 180 = .ok (.iaload, 1) := by decide +kernel
theorem dX11_cut_181 : decode cX11_cut 181 = .ok (.iload_n 2, 1) := by decide +kernel
theorem dX11_cut_182 : decode cX11_cut 182 = .ok (.isub, 1) := by decide +kernel
theorem dX11_cut_183 : decode cX11_cut 183 = .ok (.iastore, 1) := by decide +kernel
theorem dX11_cut_184 : decode cX11_cut 184 = .ok (.aload_n 0, 1) := by decide +kernel
theorem dX11_cut_185 : decode cX11_cut 185 = .ok (.getfield 13, 3) := by decide +kernel
theorem dX11_cut_188 : decode cX11_cut 188 = .ok (.iconst 1, 1) := by decide +kernel
theorem dX11_cut_189 : decode cX11_cut 189 = .ok (.dup2, 1) := by decide +kernel
theorem dX11_cut_190 : decode cX11_cut 190 = .ok (.iaload, 1) := by decide +kernel
theorem dX11_cut_191 : decode cX11_cut 191 = .ok (.iconst 1, 1) := by decide +kernel
theorem dX11_cut_192 : decode cX11_cut 192 = .ok (.iadd, 1) := by decide +kernel
theorem dX11_cut_193 : decode cX11_cut 193 = .ok (.iastore, 1) := by decide +kernel
theorem dX11_cut_194 : decode cX11_cut 194 = .ok (.iload_n 3, 1) := by decide +kernel
theorem dX11_cut_195 : decode cX11_cut 195 = .ok (.ireturn, 1) := by decide +kernel
def rm_X11_cut : Room := { frames := 3, cells := 0, slots := 0, locals := 64 }
def b_X11_cut_104 (τ : gτ) (n : Nat) (x0 : Nat) (x1 : Int32) (x2 : Int32) (x3 : Int32) (x4 : Int32) (G : gG) : Option ((Int32 × gG) ⊕ ((gG))) :=
  if (10 : Int32) ≤ x4 then (some (.inr G))
  else ((gr G 11 1 x0).bind fun a17 =>
  (f_X11_at x3 x4).bind fun v18 =>
  (f_X11_of τ x0 x1 x4 G).bind fun v19 =>
  gchk (gIn v18 (gn τ a17)) <| gLet (gse G a17 (Int32.toNatClampNeg v18) v19) fun G20 =>
  gLet (x4 + 1) fun v21 =>
  some (.inl (v21, G20)))
def l_X11_cut_104 (τ : gτ) (n : Nat) (x0 : Nat) (x1 : Int32) (x2 : Int32) (x3 : Int32) (x4 : Int32) (G : gG) : Option ((gG)) :=
  gIter (fun (q : Int32 × gG) => b_X11_cut_104 τ n x0 x1 x2 x3 q.1 q.2) n (x4, G)
def k_X11_cut_135 (τ : gτ) (n : Nat) (x0 : Nat) (x1 : Int32) (x2 : Int32) (x3 : Int32)  (G : gG) : Option (Int32 × gG) :=
  (gr G 11 1 x0).bind fun a23 =>
  (f_X11_at x3 (3 : Int32)).bind fun v24 =>
  gchk (gIn v24 (gn τ a23)) <| gLet (gse G a23 (Int32.toNatClampNeg v24) x2) fun G25 =>
  (gr G25 11 1 x0).bind fun a26 =>
  (f_X11_at x3 (6 : Int32)).bind fun v27 =>
  gchk (gIn v27 (gn τ a26)) <| gLet (gse G25 a26 (Int32.toNatClampNeg v27) (0 : Int32)) fun G28 =>
  (gr G28 11 1 x0).bind fun a29 =>
  (f_X11_at x3 (9 : Int32)).bind fun v30 =>
  gchk (gIn v30 (gn τ a29)) <| gLet (gse G28 a29 (Int32.toNatClampNeg v30) (0 : Int32)) fun G31 =>
  (gr G31 11 1 x0).bind fun a32 =>
  (f_X11_at x1 (3 : Int32)).bind fun v33 =>
  gchk (gIn v33 (gn τ a32)) <|
  gchk (gIn v33 (gn τ a32)) <| gLet (gse G31 a32 (Int32.toNatClampNeg v33) ((ge G31 a32 (Int32.toNatClampNeg v33)) - x2)) fun G34 =>
  (gr G34 11 1 x0).bind fun a35 =>
  gchk (gIn (1 : Int32) (gn τ a35)) <|
  gchk (gIn (1 : Int32) (gn τ a35)) <| gLet (gse G34 a35 (Int32.toNatClampNeg (1 : Int32)) ((ge G34 a35 (Int32.toNatClampNeg (1 : Int32))) + (1 : Int32))) fun G36 =>
  some (x3, G36)
def k_X11_cut_83 (τ : gτ) (n : Nat) (x0 : Nat) (x1 : Int32) (x2 : Int32) (s0 : Nat) (s1 : Int32) (G : gG) : Option (Int32 × gG) :=
  gBind2 (f_X11_throwsIf s0 s1 (4 : Int32) G) fun v13 G14 =>
  if v13 = 0 then ((f_X11_remembers τ n x0 G14).bind fun G15 =>
  (f_X11_ropes τ x0 G15).bind fun v16 =>
  (l_X11_cut_104 τ n x0 x1 x2 v16 (0 : Int32) G15).bind fun q => gLet q fun G22 => 
  k_X11_cut_135 τ n x0 x1 x2 v16  G22)
  else (some (0, G14))
def k_X11_cut_61 (τ : gτ) (n : Nat) (x0 : Nat) (x1 : Int32) (x2 : Int32) (s0 : Nat) (s1 : Int32) (G : gG) : Option (Int32 × gG) :=
  gBind2 (f_X11_throwsIf s0 s1 (3 : Int32) G) fun v10 G11 =>
  if v10 = 0 then ((f_X11_ropes τ x0 G11).bind fun v12 =>
  if v12 = (8 : Int32) then (k_X11_cut_83 τ n x0 x1 x2 x0 (1 : Int32) G11)
  else (k_X11_cut_83 τ n x0 x1 x2 x0 (0 : Int32) G11))
  else (some (0, G11))
def k_X11_cut_40 (τ : gτ) (n : Nat) (x0 : Nat) (x1 : Int32) (x2 : Int32) (s0 : Nat) (s1 : Int32) (G : gG) : Option (Int32 × gG) :=
  gBind2 (f_X11_throwsIf s0 s1 (2 : Int32) G) fun v7 G8 =>
  if v7 = 0 then ((f_X11_isWhole τ x0 x1 G8).bind fun v9 =>
  if v9 = 0 then (k_X11_cut_61 τ n x0 x1 x2 x0 (1 : Int32) G8)
  else (k_X11_cut_61 τ n x0 x1 x2 x0 (0 : Int32) G8))
  else (some (0, G8))
def f_X11_cut (τ : gτ) (n : Nat) (x0 : Nat) (x1 : Int32) (x2 : Int32) (G : gG) : Option (Int32 × gG) :=
  gLet (gsi G 11 0 x0 (0 : Int32)) fun G1 =>
  (f_X11_noRope τ x0 x1 G1).bind fun v2 =>
  gBind2 (f_X11_throwsIf x0 v2 (1 : Int32) G1) fun v3 G4 =>
  if v3 = 0 then ((f_X11_of τ x0 x1 (3 : Int32) G4).bind fun v5 =>
  (f_X11_in x2 (1 : Int32) (v5 - (1 : Int32))).bind fun v6 =>
  if v6 = 0 then (k_X11_cut_40 τ n x0 x1 x2 x0 (1 : Int32) G4)
  else (k_X11_cut_40 τ n x0 x1 x2 x0 (0 : Int32) G4))
  else (some (0, G4))
set_option maxHeartbeats 4000000 in
set_option maxRecDepth 100000 in
theorem w_b_X11_cut_104 {X : gX} {τ : gτ} {p : Program} {l : Launch} {e : Env} {s : State} {m : MethodId} {args : Array Value} {below : List Frame} {meth : Method} {c : Code} (fx : gFx X p s m args meth c cX11_cut 5 RX11) (n : Nat) (x0 : Nat) (x1 : Int32) (x2 : Int32) (x3 : Int32) (x4 : Int32) (h0 : gK τ x0 11) {Q : State → Prop} {K : ((Int32 × gG) ⊕ ((gG))) → Prop} {G : gG} {H : Heap} {locs : List Loc} {ls : Array Slot} (hw : gHw X τ G H locs) (hl : lv_has ls 5 [(0, .ref x0), (1, .int x1), (2, .int x2), (3, .int x3), (4, .int x4)]) (hok : gOk (b_X11_cut_104 τ n x0 x1 x2 x3 x4 G) K) (hc : ∀ (y4 : Int32) (G : gG) (H : Heap) (locs : List Loc) (ls : Array Slot), gHw X τ G H locs → lv_has ls 5 [(0, .ref x0), (1, .int x1), (2, .int x2), (3, .int x3), (4, .int y4)] → K (.inl (y4, G)) → W p l e rm_X11_cut s m args below meth c H locs 0 0 Q (F0 m 104 ls [])) (hx0 : ∀ (G : gG) (H : Heap) (locs : List Loc) (ls : Array Slot), gHw X τ G H locs → lv_has ls 5 [(0, .ref x0), (1, .int x1), (2, .int x2), (3, .int x3)] → K (.inr G) → W p l e rm_X11_cut s m args below meth c H locs 0 0 Q (F0 m 135 ls [])) : W p l e rm_X11_cut s m args below meth c H locs 0 0 Q (F0 m 104 ls []) := by
  unfold b_X11_cut_104 at hok
  refine lv_iload fx.1 fx.2.1 dX11_cut_104 (lv_at hl 4 rfl) ?_
  refine lv_bipush (v := 10) fx.1 fx.2.1 dX11_cut_106 (by decide) ?_
  refine g_icmp_ge (tgt := 135) fx dX11_cut_108 (by decide) hok (fun hok => ?_) (fun hok => ?_)
  · exact hx0  G _ _ _  hw (lv_sub hl [0, 1, 2, 3] rfl) (gOk_some hok)
  · refine lv_aload_n fx.1 fx.2.1 dX11_cut_111 rfl (lv_at hl 0 rfl) ?_
    refine g_getr fx hw h0 lf_RX11_13 rfl dX11_cut_112 hok (fun a17 h_a17 hok => ?_)
    refine lv_iload_n fx.1 fx.2.1 dX11_cut_115 rfl (lv_at hl 3 rfl) ?_
    refine lv_iload fx.1 fx.2.1 dX11_cut_116 (lv_at hl 4 rfl) ?_
    obtain ⟨v18, hf, hok⟩ := gOk_bind hok
    refine g_callS0 fx hw (c_X11_at l X τ x3 x4 G  hf) ls_RX11_59 ⟨rfl, rfl⟩ rfl hl.1 rfl ⟨Nat.le_of_ble_eq_true rfl, Nat.le_of_ble_eq_true rfl⟩ (Nat.le_of_ble_eq_true rfl) ⟨Nat.le_of_ble_eq_true rfl, Nat.le_of_ble_eq_true rfl⟩ dX11_cut_118 (fun H locs hw => ?_)
    refine lv_aload_n fx.1 fx.2.1 dX11_cut_121 rfl (lv_at hl 0 rfl) ?_
    refine lv_iload_n fx.1 fx.2.1 dX11_cut_122 rfl (lv_at hl 1 rfl) ?_
    refine lv_iload fx.1 fx.2.1 dX11_cut_123 (lv_at hl 4 rfl) ?_
    obtain ⟨v19, hf, hok⟩ := gOk_bind hok
    refine g_callV0 (κ := 11) fx hw (c_X11_of l X τ x0 x1 x4 G h0 hf) lv_RX11_62 ⟨rfl, rfl⟩ rfl rfl h0 rfl hl.1 rfl ⟨Nat.le_of_ble_eq_true rfl, Nat.le_of_ble_eq_true rfl⟩ (Nat.le_of_ble_eq_true rfl) ⟨Nat.le_of_ble_eq_true rfl, Nat.le_of_ble_eq_true rfl⟩ dX11_cut_125 (fun H locs hw => ?_)
    refine g_iast fx hw h_a17 dX11_cut_128 hok (fun G20 H locs hw hok => ?_)
    obtain ⟨v21, e_v21, hok⟩ := gOk_let hok
    refine lv_iinc (v := v21) (lv' := [(4, .int v21), (0, .ref x0), (1, .int x1), (2, .int x2), (3, .int x3)]) fx.1 fx.2.1 dX11_cut_129 hl (k := 4) rfl (by rw [e_v21]; rfl) (by decide) rfl (fun ls hl => ?_)
    refine lv_goto (tgt := 104) fx.1 fx.2.1 dX11_cut_132 (by decide) ?_
    exact hc v21 G20 _ _ _  hw (lv_sub hl [1, 2, 3, 4, 0] rfl) (gOk_some hok)
theorem w_l_X11_cut_104 {X : gX} {τ : gτ} {p : Program} {l : Launch} {e : Env} {s : State} {m : MethodId} {args : Array Value} {below : List Frame} {meth : Method} {c : Code} (fx : gFx X p s m args meth c cX11_cut 5 RX11) (n : Nat) (x0 : Nat) (x1 : Int32) (x2 : Int32) (x3 : Int32) (h0 : gK τ x0 11) {Q : State → Prop} {K : ((gG)) → Prop} (hx0 : ∀ (G : gG) (H : Heap) (locs : List Loc) (ls : Array Slot), gHw X τ G H locs → lv_has ls 5 [(0, .ref x0), (1, .int x1), (2, .int x2), (3, .int x3)] → K G → W p l e rm_X11_cut s m args below meth c H locs 0 0 Q (F0 m 135 ls [])) : ∀ (k : Nat) (x4 : Int32) (G : gG) (H : Heap) (locs : List Loc) (ls : Array Slot), gHw X τ G H locs → lv_has ls 5 [(0, .ref x0), (1, .int x1), (2, .int x2), (3, .int x3), (4, .int x4)] → gOk (gIter (fun (q : Int32 × gG) => b_X11_cut_104 τ n x0 x1 x2 x3 q.1 q.2) k (x4, G)) K → W p l e rm_X11_cut s m args below meth c H locs 0 0 Q (F0 m 104 ls []) := by
  intro k
  induction k with
  | zero =>
    intro x4 G H locs ls hw hl hok
    exact gOk_iter0 hok
  | succ k hc =>
    intro x4 G H locs ls hw hl hok
    exact w_b_X11_cut_104 fx n x0 x1 x2 x3 x4 h0 hw hl (gOk_iter hok) hc hx0
set_option maxHeartbeats 4000000 in
set_option maxRecDepth 100000 in
theorem w_X11_cut_135 {X : gX} {τ : gτ} {p : Program} {l : Launch} {e : Env} {s : State} {m : MethodId} {args : Array Value} {below : List Frame} {meth : Method} {c : Code} (fx : gFx X p s m args meth c cX11_cut 5 RX11) (n : Nat) (x0 : Nat) (x1 : Int32) (x2 : Int32) (x3 : Int32)  (h0 : gK τ x0 11)  (hr : meth.sig.returnType = (some .int)) {r : Int32} {G' : gG} {G : gG} {H : Heap} {locs : List Loc} {ls : Array Slot} (hw : gHw X τ G H locs) (hl : lv_has ls 5 [(0, .ref x0), (1, .int x1), (2, .int x2), (3, .int x3)]) (hok : gOk (k_X11_cut_135 τ n x0 x1 x2 x3  G) (fun q => q = (r, G')))  : W p l e rm_X11_cut s m args below meth c H locs 0 0 (MQ below (gQ X τ (some (.int r)) G') args s 0 0 (gFree X)) (F0 m 135 ls []) := by
  unfold k_X11_cut_135 at hok
  refine lv_aload_n fx.1 fx.2.1 dX11_cut_135 rfl (lv_at hl 0 rfl) ?_
  refine g_getr fx hw h0 lf_RX11_13 rfl dX11_cut_136 hok (fun a23 h_a23 hok => ?_)
  refine lv_iload_n fx.1 fx.2.1 dX11_cut_139 rfl (lv_at hl 3 rfl) ?_
  refine lv_iconst (v := 3) fx.1 fx.2.1 dX11_cut_140 (by decide) ?_
  obtain ⟨v24, hf, hok⟩ := gOk_bind hok
  refine g_callS0 fx hw (c_X11_at l X τ x3 (3 : Int32) G  hf) ls_RX11_59 ⟨rfl, rfl⟩ rfl hl.1 rfl ⟨Nat.le_of_ble_eq_true rfl, Nat.le_of_ble_eq_true rfl⟩ (Nat.le_of_ble_eq_true rfl) ⟨Nat.le_of_ble_eq_true rfl, Nat.le_of_ble_eq_true rfl⟩ dX11_cut_141 (fun H locs hw => ?_)
  refine lv_iload_n fx.1 fx.2.1 dX11_cut_144 rfl (lv_at hl 2 rfl) ?_
  refine g_iast fx hw h_a23 dX11_cut_145 hok (fun G25 H locs hw hok => ?_)
  refine lv_aload_n fx.1 fx.2.1 dX11_cut_146 rfl (lv_at hl 0 rfl) ?_
  refine g_getr fx hw h0 lf_RX11_13 rfl dX11_cut_147 hok (fun a26 h_a26 hok => ?_)
  refine lv_iload_n fx.1 fx.2.1 dX11_cut_150 rfl (lv_at hl 3 rfl) ?_
  refine lv_bipush (v := 6) fx.1 fx.2.1 dX11_cut_151 (by decide) ?_
  obtain ⟨v27, hf, hok⟩ := gOk_bind hok
  refine g_callS0 fx hw (c_X11_at l X τ x3 (6 : Int32) G25  hf) ls_RX11_59 ⟨rfl, rfl⟩ rfl hl.1 rfl ⟨Nat.le_of_ble_eq_true rfl, Nat.le_of_ble_eq_true rfl⟩ (Nat.le_of_ble_eq_true rfl) ⟨Nat.le_of_ble_eq_true rfl, Nat.le_of_ble_eq_true rfl⟩ dX11_cut_153 (fun H locs hw => ?_)
  refine lv_iconst (v := 0) fx.1 fx.2.1 dX11_cut_156 (by decide) ?_
  refine g_iast fx hw h_a26 dX11_cut_157 hok (fun G28 H locs hw hok => ?_)
  refine lv_aload_n fx.1 fx.2.1 dX11_cut_158 rfl (lv_at hl 0 rfl) ?_
  refine g_getr fx hw h0 lf_RX11_13 rfl dX11_cut_159 hok (fun a29 h_a29 hok => ?_)
  refine lv_iload_n fx.1 fx.2.1 dX11_cut_162 rfl (lv_at hl 3 rfl) ?_
  refine lv_bipush (v := 9) fx.1 fx.2.1 dX11_cut_163 (by decide) ?_
  obtain ⟨v30, hf, hok⟩ := gOk_bind hok
  refine g_callS0 fx hw (c_X11_at l X τ x3 (9 : Int32) G28  hf) ls_RX11_59 ⟨rfl, rfl⟩ rfl hl.1 rfl ⟨Nat.le_of_ble_eq_true rfl, Nat.le_of_ble_eq_true rfl⟩ (Nat.le_of_ble_eq_true rfl) ⟨Nat.le_of_ble_eq_true rfl, Nat.le_of_ble_eq_true rfl⟩ dX11_cut_165 (fun H locs hw => ?_)
  refine lv_iconst (v := 0) fx.1 fx.2.1 dX11_cut_168 (by decide) ?_
  refine g_iast fx hw h_a29 dX11_cut_169 hok (fun G31 H locs hw hok => ?_)
  refine lv_aload_n fx.1 fx.2.1 dX11_cut_170 rfl (lv_at hl 0 rfl) ?_
  refine g_getr fx hw h0 lf_RX11_13 rfl dX11_cut_171 hok (fun a32 h_a32 hok => ?_)
  refine lv_iload_n fx.1 fx.2.1 dX11_cut_174 rfl (lv_at hl 1 rfl) ?_
  refine lv_iconst (v := 3) fx.1 fx.2.1 dX11_cut_175 (by decide) ?_
  obtain ⟨v33, hf, hok⟩ := gOk_bind hok
  refine g_callS0 fx hw (c_X11_at l X τ x1 (3 : Int32) G31  hf) ls_RX11_59 ⟨rfl, rfl⟩ rfl hl.1 rfl ⟨Nat.le_of_ble_eq_true rfl, Nat.le_of_ble_eq_true rfl⟩ (Nat.le_of_ble_eq_true rfl) ⟨Nat.le_of_ble_eq_true rfl, Nat.le_of_ble_eq_true rfl⟩ dX11_cut_176 (fun H locs hw => ?_)
  refine lv_dup2_11 fx.1 fx.2.1 dX11_cut_179 rfl rfl ?_
  refine g_iald fx hw h_a32 dX11_cut_180 hok (fun hok => ?_)
  refine lv_iload_n fx.1 fx.2.1 dX11_cut_181 rfl (lv_at hl 2 rfl) ?_
  refine lv_isub fx.1 fx.2.1 dX11_cut_182 ?_
  refine g_iast fx hw h_a32 dX11_cut_183 hok (fun G34 H locs hw hok => ?_)
  refine lv_aload_n fx.1 fx.2.1 dX11_cut_184 rfl (lv_at hl 0 rfl) ?_
  refine g_getr fx hw h0 lf_RX11_13 rfl dX11_cut_185 hok (fun a35 h_a35 hok => ?_)
  refine lv_iconst (v := 1) fx.1 fx.2.1 dX11_cut_188 (by decide) ?_
  refine lv_dup2_11 fx.1 fx.2.1 dX11_cut_189 rfl rfl ?_
  refine g_iald fx hw h_a35 dX11_cut_190 hok (fun hok => ?_)
  refine lv_iconst (v := 1) fx.1 fx.2.1 dX11_cut_191 (by decide) ?_
  refine lv_iadd fx.1 fx.2.1 dX11_cut_192 ?_
  refine g_iast fx hw h_a35 dX11_cut_193 hok (fun G36 H locs hw hok => ?_)
  refine lv_iload_n fx.1 fx.2.1 dX11_cut_194 rfl (lv_at hl 3 rfl) ?_
  cases gOk_some hok
  exact g_iret fx hw hr dX11_cut_195
set_option maxHeartbeats 4000000 in
set_option maxRecDepth 100000 in
theorem w_X11_cut_83 {X : gX} {τ : gτ} {p : Program} {l : Launch} {e : Env} {s : State} {m : MethodId} {args : Array Value} {below : List Frame} {meth : Method} {c : Code} (fx : gFx X p s m args meth c cX11_cut 5 RX11) (n : Nat) (x0 : Nat) (x1 : Int32) (x2 : Int32) (s0 : Nat) (s1 : Int32) (h0 : gK τ x0 11) (hs0 : gK τ s0 11) (hr : meth.sig.returnType = (some .int)) {r : Int32} {G' : gG} {G : gG} {H : Heap} {locs : List Loc} {ls : Array Slot} (hw : gHw X τ G H locs) (hl : lv_has ls 5 [(0, .ref x0), (1, .int x1), (2, .int x2)]) (hok : gOk (k_X11_cut_83 τ n x0 x1 x2 s0 s1 G) (fun q => q = (r, G')))  : W p l e rm_X11_cut s m args below meth c H locs 0 0 (MQ below (gQ X τ (some (.int r)) G') args s 0 0 (gFree X)) (F0 m 83 ls [.int s1, .ref s0]) := by
  unfold k_X11_cut_83 at hok
  refine lv_iconst (v := 4) fx.1 fx.2.1 dX11_cut_83 (by decide) ?_
  obtain ⟨v13, G14, hf, hok⟩ := gOk_bind2 hok
  refine g_callV0 (κ := 11) fx hw (c_X11_throwsIf l X τ s0 s1 (4 : Int32) G hs0 hf) lv_RX11_263 ⟨rfl, rfl⟩ rfl rfl hs0 rfl hl.1 rfl ⟨Nat.le_of_ble_eq_true rfl, Nat.le_of_ble_eq_true rfl⟩ (Nat.le_of_ble_eq_true rfl) ⟨Nat.le_of_ble_eq_true rfl, Nat.le_of_ble_eq_true rfl⟩ dX11_cut_84 (fun H locs hw => ?_)
  refine g_if_eq (tgt := 92) fx dX11_cut_87 (by decide) hok (fun hok => ?_) (fun hok => ?_)
  · refine lv_aload_n fx.1 fx.2.1 dX11_cut_92 rfl (lv_at hl 0 rfl) ?_
    obtain ⟨G15, hf, hok⟩ := gOk_bind hok
    refine g_callV0 (κ := 11) fx hw (c_X11_remembers l X τ n x0 G14 h0 hf) lv_RX11_346 ⟨rfl, rfl⟩ rfl rfl h0 rfl hl.1 rfl ⟨Nat.le_of_ble_eq_true rfl, Nat.le_of_ble_eq_true rfl⟩ (Nat.le_of_ble_eq_true rfl) ⟨Nat.le_of_ble_eq_true rfl, Nat.le_of_ble_eq_true rfl⟩ dX11_cut_93 (fun H locs hw => ?_)
    refine lv_aload_n fx.1 fx.2.1 dX11_cut_96 rfl (lv_at hl 0 rfl) ?_
    obtain ⟨v16, hf, hok⟩ := gOk_bind hok
    refine g_callV0 (κ := 11) fx hw (c_X11_ropes l X τ x0 G15 h0 hf) lv_RX11_73 ⟨rfl, rfl⟩ rfl rfl h0 rfl hl.1 rfl ⟨Nat.le_of_ble_eq_true rfl, Nat.le_of_ble_eq_true rfl⟩ (Nat.le_of_ble_eq_true rfl) ⟨Nat.le_of_ble_eq_true rfl, Nat.le_of_ble_eq_true rfl⟩ dX11_cut_97 (fun H locs hw => ?_)
    refine lv_istore_n (lv' := [(3, .int v16), (0, .ref x0), (1, .int x1), (2, .int x2)]) fx.1 fx.2.1 dX11_cut_100 rfl hl (by decide) rfl (fun ls hl => ?_)
    refine lv_iconst (v := 0) fx.1 fx.2.1 dX11_cut_101 (by decide) ?_
    refine lv_istore (lv' := [(4, .int (0 : Int32)), (3, .int v16), (0, .ref x0), (1, .int x1), (2, .int x2)]) fx.1 fx.2.1 dX11_cut_102 hl (by decide) rfl (fun ls hl => ?_)
    refine w_l_X11_cut_104 fx n x0 x1 x2 v16 h0 ?_ n (0 : Int32) G15 _ _ _  hw (lv_sub hl [2, 3, 4, 1, 0] rfl) (gOk_bindK hok)
    intro G22 H locs ls hw hl hok
    have hok : gOk (ρ := Int32 × gG) (k_X11_cut_135 τ n x0 x1 x2 v16  G22) _ := hok
    exact w_X11_cut_135 fx n x0 x1 x2 v16  h0  hr hw (lv_sub hl [0, 1, 2, 3] rfl) hok
  · refine lv_iconst (v := 0) fx.1 fx.2.1 dX11_cut_90 (by decide) ?_
    cases gOk_some hok
    exact g_iret fx hw hr dX11_cut_91
set_option maxHeartbeats 4000000 in
set_option maxRecDepth 100000 in
theorem w_X11_cut_61 {X : gX} {τ : gτ} {p : Program} {l : Launch} {e : Env} {s : State} {m : MethodId} {args : Array Value} {below : List Frame} {meth : Method} {c : Code} (fx : gFx X p s m args meth c cX11_cut 5 RX11) (n : Nat) (x0 : Nat) (x1 : Int32) (x2 : Int32) (s0 : Nat) (s1 : Int32) (h0 : gK τ x0 11) (hs0 : gK τ s0 11) (hr : meth.sig.returnType = (some .int)) {r : Int32} {G' : gG} {G : gG} {H : Heap} {locs : List Loc} {ls : Array Slot} (hw : gHw X τ G H locs) (hl : lv_has ls 5 [(0, .ref x0), (1, .int x1), (2, .int x2)]) (hok : gOk (k_X11_cut_61 τ n x0 x1 x2 s0 s1 G) (fun q => q = (r, G')))  : W p l e rm_X11_cut s m args below meth c H locs 0 0 (MQ below (gQ X τ (some (.int r)) G') args s 0 0 (gFree X)) (F0 m 61 ls [.int s1, .ref s0]) := by
  unfold k_X11_cut_61 at hok
  refine lv_iconst (v := 3) fx.1 fx.2.1 dX11_cut_61 (by decide) ?_
  obtain ⟨v10, G11, hf, hok⟩ := gOk_bind2 hok
  refine g_callV0 (κ := 11) fx hw (c_X11_throwsIf l X τ s0 s1 (3 : Int32) G hs0 hf) lv_RX11_263 ⟨rfl, rfl⟩ rfl rfl hs0 rfl hl.1 rfl ⟨Nat.le_of_ble_eq_true rfl, Nat.le_of_ble_eq_true rfl⟩ (Nat.le_of_ble_eq_true rfl) ⟨Nat.le_of_ble_eq_true rfl, Nat.le_of_ble_eq_true rfl⟩ dX11_cut_62 (fun H locs hw => ?_)
  refine g_if_ne (tgt := 90) fx dX11_cut_65 (by decide) hok (fun hok => ?_) (fun hok => ?_)
  · refine lv_aload_n fx.1 fx.2.1 dX11_cut_68 rfl (lv_at hl 0 rfl) ?_
    refine lv_aload_n fx.1 fx.2.1 dX11_cut_69 rfl (lv_at hl 0 rfl) ?_
    obtain ⟨v12, hf, hok⟩ := gOk_bind hok
    refine g_callV0 (κ := 11) fx hw (c_X11_ropes l X τ x0 G11 h0 hf) lv_RX11_73 ⟨rfl, rfl⟩ rfl rfl h0 rfl hl.1 rfl ⟨Nat.le_of_ble_eq_true rfl, Nat.le_of_ble_eq_true rfl⟩ (Nat.le_of_ble_eq_true rfl) ⟨Nat.le_of_ble_eq_true rfl, Nat.le_of_ble_eq_true rfl⟩ dX11_cut_70 (fun H locs hw => ?_)
    refine lv_bipush (v := 8) fx.1 fx.2.1 dX11_cut_73 (by decide) ?_
    refine g_icmp_ne (tgt := 82) fx dX11_cut_75 (by decide) hok (fun hok => ?_) (fun hok => ?_)
    · refine lv_iconst (v := 1) fx.1 fx.2.1 dX11_cut_78 (by decide) ?_
      refine lv_goto (tgt := 83) fx.1 fx.2.1 dX11_cut_79 (by decide) ?_
      exact w_X11_cut_83 fx n x0 x1 x2 x0 (1 : Int32) h0 h0 hr hw (lv_sub hl [0, 1, 2] rfl) hok
    · refine lv_iconst (v := 0) fx.1 fx.2.1 dX11_cut_82 (by decide) ?_
      exact w_X11_cut_83 fx n x0 x1 x2 x0 (0 : Int32) h0 h0 hr hw (lv_sub hl [0, 1, 2] rfl) hok
  · refine lv_iconst (v := 0) fx.1 fx.2.1 dX11_cut_90 (by decide) ?_
    cases gOk_some hok
    exact g_iret fx hw hr dX11_cut_91
set_option maxHeartbeats 4000000 in
set_option maxRecDepth 100000 in
theorem w_X11_cut_40 {X : gX} {τ : gτ} {p : Program} {l : Launch} {e : Env} {s : State} {m : MethodId} {args : Array Value} {below : List Frame} {meth : Method} {c : Code} (fx : gFx X p s m args meth c cX11_cut 5 RX11) (n : Nat) (x0 : Nat) (x1 : Int32) (x2 : Int32) (s0 : Nat) (s1 : Int32) (h0 : gK τ x0 11) (hs0 : gK τ s0 11) (hr : meth.sig.returnType = (some .int)) {r : Int32} {G' : gG} {G : gG} {H : Heap} {locs : List Loc} {ls : Array Slot} (hw : gHw X τ G H locs) (hl : lv_has ls 5 [(0, .ref x0), (1, .int x1), (2, .int x2)]) (hok : gOk (k_X11_cut_40 τ n x0 x1 x2 s0 s1 G) (fun q => q = (r, G')))  : W p l e rm_X11_cut s m args below meth c H locs 0 0 (MQ below (gQ X τ (some (.int r)) G') args s 0 0 (gFree X)) (F0 m 40 ls [.int s1, .ref s0]) := by
  unfold k_X11_cut_40 at hok
  refine lv_iconst (v := 2) fx.1 fx.2.1 dX11_cut_40 (by decide) ?_
  obtain ⟨v7, G8, hf, hok⟩ := gOk_bind2 hok
  refine g_callV0 (κ := 11) fx hw (c_X11_throwsIf l X τ s0 s1 (2 : Int32) G hs0 hf) lv_RX11_263 ⟨rfl, rfl⟩ rfl rfl hs0 rfl hl.1 rfl ⟨Nat.le_of_ble_eq_true rfl, Nat.le_of_ble_eq_true rfl⟩ (Nat.le_of_ble_eq_true rfl) ⟨Nat.le_of_ble_eq_true rfl, Nat.le_of_ble_eq_true rfl⟩ dX11_cut_41 (fun H locs hw => ?_)
  refine g_if_ne (tgt := 90) fx dX11_cut_44 (by decide) hok (fun hok => ?_) (fun hok => ?_)
  · refine lv_aload_n fx.1 fx.2.1 dX11_cut_47 rfl (lv_at hl 0 rfl) ?_
    refine lv_aload_n fx.1 fx.2.1 dX11_cut_48 rfl (lv_at hl 0 rfl) ?_
    refine lv_iload_n fx.1 fx.2.1 dX11_cut_49 rfl (lv_at hl 1 rfl) ?_
    obtain ⟨v9, hf, hok⟩ := gOk_bind hok
    refine g_callV0 (κ := 11) fx hw (c_X11_isWhole l X τ x0 x1 G8 h0 hf) lv_RX11_146 ⟨rfl, rfl⟩ rfl rfl h0 rfl hl.1 rfl ⟨Nat.le_of_ble_eq_true rfl, Nat.le_of_ble_eq_true rfl⟩ (Nat.le_of_ble_eq_true rfl) ⟨Nat.le_of_ble_eq_true rfl, Nat.le_of_ble_eq_true rfl⟩ dX11_cut_50 (fun H locs hw => ?_)
    refine g_if_ne (tgt := 60) fx dX11_cut_53 (by decide) hok (fun hok => ?_) (fun hok => ?_)
    · refine lv_iconst (v := 1) fx.1 fx.2.1 dX11_cut_56 (by decide) ?_
      refine lv_goto (tgt := 61) fx.1 fx.2.1 dX11_cut_57 (by decide) ?_
      exact w_X11_cut_61 fx n x0 x1 x2 x0 (1 : Int32) h0 h0 hr hw (lv_sub hl [0, 1, 2] rfl) hok
    · refine lv_iconst (v := 0) fx.1 fx.2.1 dX11_cut_60 (by decide) ?_
      exact w_X11_cut_61 fx n x0 x1 x2 x0 (0 : Int32) h0 h0 hr hw (lv_sub hl [0, 1, 2] rfl) hok
  · refine lv_iconst (v := 0) fx.1 fx.2.1 dX11_cut_90 (by decide) ?_
    cases gOk_some hok
    exact g_iret fx hw hr dX11_cut_91
set_option maxHeartbeats 4000000 in
set_option maxRecDepth 100000 in
theorem c_X11_cut (l : Launch) (X : gX) (τ : gτ) (n : Nat) (x0 : Nat) (x1 : Int32) (x2 : Int32) (G : gG) (h0 : gK τ x0 11) {r : Int32} {G' : gG} (h : f_X11_cut τ n x0 x1 x2 G = some (r, G')) : gM l X τ yX11_cut cX11_cut 5 (some .int) rm_X11_cut [.ref x0, .int x1, .int x2] G (some (.int r)) G' := by
  refine g_body (by decide +kernel) (Nat.le_of_ble_eq_true rfl) ?_
  intro p e s m args below meth c ls fx hr hw hl
  have fx : gFx X p s m args meth c cX11_cut 5 RX11 := fx
  have hl : lv_has ls 5 [(0, .ref x0), (1, .int x1), (2, .int x2)] := hl
  have hok : gOk (f_X11_cut τ n x0 x1 x2 G) (fun q => q = (r, G')) := ⟨_, h, rfl⟩
  unfold f_X11_cut at hok
  show W p l e rm_X11_cut s m args below meth c s.heap [] 0 0 (MQ below (gQ X τ (some (.int r)) G') args s 0 0 (gFree X)) _
  refine lv_aload_n fx.1 fx.2.1 dX11_cut_0 rfl (lv_at hl 0 rfl) ?_
  refine lv_iconst (v := 0) fx.1 fx.2.1 dX11_cut_1 (by decide) ?_
  refine g_puti fx hw h0 lp_RX11_3 rfl rfl dX11_cut_2 hok (fun G1 H locs hw hok => ?_)
  refine lv_aload_n fx.1 fx.2.1 dX11_cut_5 rfl (lv_at hl 0 rfl) ?_
  refine lv_aload_n fx.1 fx.2.1 dX11_cut_6 rfl (lv_at hl 0 rfl) ?_
  refine lv_iload_n fx.1 fx.2.1 dX11_cut_7 rfl (lv_at hl 1 rfl) ?_
  obtain ⟨v2, hf, hok⟩ := gOk_bind hok
  refine g_callV0 (κ := 11) fx hw (c_X11_noRope l X τ x0 x1 G1 h0 hf) lv_RX11_321 ⟨rfl, rfl⟩ rfl rfl h0 rfl hl.1 rfl ⟨Nat.le_of_ble_eq_true rfl, Nat.le_of_ble_eq_true rfl⟩ (Nat.le_of_ble_eq_true rfl) ⟨Nat.le_of_ble_eq_true rfl, Nat.le_of_ble_eq_true rfl⟩ dX11_cut_8 (fun H locs hw => ?_)
  refine lv_iconst (v := 1) fx.1 fx.2.1 dX11_cut_11 (by decide) ?_
  obtain ⟨v3, G4, hf, hok⟩ := gOk_bind2 hok
  refine g_callV0 (κ := 11) fx hw (c_X11_throwsIf l X τ x0 v2 (1 : Int32) G1 h0 hf) lv_RX11_263 ⟨rfl, rfl⟩ rfl rfl h0 rfl hl.1 rfl ⟨Nat.le_of_ble_eq_true rfl, Nat.le_of_ble_eq_true rfl⟩ (Nat.le_of_ble_eq_true rfl) ⟨Nat.le_of_ble_eq_true rfl, Nat.le_of_ble_eq_true rfl⟩ dX11_cut_12 (fun H locs hw => ?_)
  refine g_if_ne (tgt := 90) fx dX11_cut_15 (by decide) hok (fun hok => ?_) (fun hok => ?_)
  · refine lv_aload_n fx.1 fx.2.1 dX11_cut_18 rfl (lv_at hl 0 rfl) ?_
    refine lv_iload_n fx.1 fx.2.1 dX11_cut_19 rfl (lv_at hl 2 rfl) ?_
    refine lv_iconst (v := 1) fx.1 fx.2.1 dX11_cut_20 (by decide) ?_
    refine lv_aload_n fx.1 fx.2.1 dX11_cut_21 rfl (lv_at hl 0 rfl) ?_
    refine lv_iload_n fx.1 fx.2.1 dX11_cut_22 rfl (lv_at hl 1 rfl) ?_
    refine lv_iconst (v := 3) fx.1 fx.2.1 dX11_cut_23 (by decide) ?_
    obtain ⟨v5, hf, hok⟩ := gOk_bind hok
    refine g_callV0 (κ := 11) fx hw (c_X11_of l X τ x0 x1 (3 : Int32) G4 h0 hf) lv_RX11_62 ⟨rfl, rfl⟩ rfl rfl h0 rfl hl.1 rfl ⟨Nat.le_of_ble_eq_true rfl, Nat.le_of_ble_eq_true rfl⟩ (Nat.le_of_ble_eq_true rfl) ⟨Nat.le_of_ble_eq_true rfl, Nat.le_of_ble_eq_true rfl⟩ dX11_cut_24 (fun H locs hw => ?_)
    refine lv_iconst (v := 1) fx.1 fx.2.1 dX11_cut_27 (by decide) ?_
    refine lv_isub fx.1 fx.2.1 dX11_cut_28 ?_
    obtain ⟨v6, hf, hok⟩ := gOk_bind hok
    refine g_callS0 fx hw (c_X11_in l X τ x2 (1 : Int32) (v5 - (1 : Int32)) G4  hf) ls_RX11_69 ⟨rfl, rfl⟩ rfl hl.1 rfl ⟨Nat.le_of_ble_eq_true rfl, Nat.le_of_ble_eq_true rfl⟩ (Nat.le_of_ble_eq_true rfl) ⟨Nat.le_of_ble_eq_true rfl, Nat.le_of_ble_eq_true rfl⟩ dX11_cut_29 (fun H locs hw => ?_)
    refine g_if_ne (tgt := 39) fx dX11_cut_32 (by decide) hok (fun hok => ?_) (fun hok => ?_)
    · refine lv_iconst (v := 1) fx.1 fx.2.1 dX11_cut_35 (by decide) ?_
      refine lv_goto (tgt := 40) fx.1 fx.2.1 dX11_cut_36 (by decide) ?_
      exact w_X11_cut_40 fx n x0 x1 x2 x0 (1 : Int32) h0 h0 hr hw (lv_sub hl [0, 1, 2] rfl) hok
    · refine lv_iconst (v := 0) fx.1 fx.2.1 dX11_cut_39 (by decide) ?_
      exact w_X11_cut_40 fx n x0 x1 x2 x0 (0 : Int32) h0 h0 hr hw (lv_sub hl [0, 1, 2] rfl) hok
  · refine lv_iconst (v := 0) fx.1 fx.2.1 dX11_cut_90 (by decide) ?_
    cases gOk_some hok
    exact g_iret fx hw hr dX11_cut_91
