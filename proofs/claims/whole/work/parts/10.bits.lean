theorem dJ6_bitCount_0f7a4_0 : decode cJ6_bitCount_0f7a4 0 = .ok (.iload_n 0, 1) := by decide +kernel
theorem dJ6_bitCount_0f7a4_1 : decode cJ6_bitCount_0f7a4 1 = .ok (.iload_n 0, 1) := by decide +kernel
theorem dJ6_bitCount_0f7a4_2 : decode cJ6_bitCount_0f7a4 2 = .ok (.iconst 1, 1) := by decide +kernel
theorem dJ6_bitCount_0f7a4_3 : decode cJ6_bitCount_0f7a4 3 = .ok (.iushr, 1) := by decide +kernel
theorem dJ6_bitCount_0f7a4_4 : decode cJ6_bitCount_0f7a4 4 = .ok (.ldc_w 265, 3) := by decide +kernel
theorem dJ6_bitCount_0f7a4_7 : decode cJ6_bitCount_0f7a4 7 = .ok (.iand, 1) := by decide +kernel
theorem dJ6_bitCount_0f7a4_8 : decode cJ6_bitCount_0f7a4 8 = .ok (.isub, 1) := by decide +kernel
theorem dJ6_bitCount_0f7a4_9 : decode cJ6_bitCount_0f7a4 9 = .ok (.istore_n 0, 1) := by decide +kernel
theorem dJ6_bitCount_0f7a4_10 : decode cJ6_bitCount_0f7a4 10 = .ok (.iload_n 0, 1) := by decide +kernel
theorem dJ6_bitCount_0f7a4_11 : decode cJ6_bitCount_0f7a4 11 = .ok (.ldc_w 266, 3) := by decide +kernel
theorem dJ6_bitCount_0f7a4_14 : decode cJ6_bitCount_0f7a4 14 = .ok (.iand, 1) := by decide +kernel
theorem dJ6_bitCount_0f7a4_15 : decode cJ6_bitCount_0f7a4 15 = .ok (.iload_n 0, 1) := by decide +kernel
theorem dJ6_bitCount_0f7a4_16 : decode cJ6_bitCount_0f7a4 16 = .ok (.iconst 2, 1) := by decide +kernel
theorem dJ6_bitCount_0f7a4_17 : decode cJ6_bitCount_0f7a4 17 = .ok (.iushr, 1) := by decide +kernel
theorem dJ6_bitCount_0f7a4_18 : decode cJ6_bitCount_0f7a4 18 = .ok (.ldc_w 266, 3) := by decide +kernel
theorem dJ6_bitCount_0f7a4_21 : decode cJ6_bitCount_0f7a4 21 = .ok (.iand, 1) := by decide +kernel
theorem dJ6_bitCount_0f7a4_22 : decode cJ6_bitCount_0f7a4 22 = .ok (.iadd, 1) := by decide +kernel
theorem dJ6_bitCount_0f7a4_23 : decode cJ6_bitCount_0f7a4 23 = .ok (.istore_n 0, 1) := by decide +kernel
theorem dJ6_bitCount_0f7a4_24 : decode cJ6_bitCount_0f7a4 24 = .ok (.iload_n 0, 1) := by decide +kernel
theorem dJ6_bitCount_0f7a4_25 : decode cJ6_bitCount_0f7a4 25 = .ok (.iload_n 0, 1) := by decide +kernel
theorem dJ6_bitCount_0f7a4_26 : decode cJ6_bitCount_0f7a4 26 = .ok (.iconst 4, 1) := by decide +kernel
theorem dJ6_bitCount_0f7a4_27 : decode cJ6_bitCount_0f7a4 27 = .ok (.iushr, 1) := by decide +kernel
theorem dJ6_bitCount_0f7a4_28 : decode cJ6_bitCount_0f7a4 28 = .ok (.iadd, 1) := by decide +kernel
theorem dJ6_bitCount_0f7a4_29 : decode cJ6_bitCount_0f7a4 29 = .ok (.ldc_w 267, 3) := by decide +kernel
theorem dJ6_bitCount_0f7a4_32 : decode cJ6_bitCount_0f7a4 32 = .ok (.iand, 1) := by decide +kernel
theorem dJ6_bitCount_0f7a4_33 : decode cJ6_bitCount_0f7a4 33 = .ok (.istore_n 0, 1) := by decide +kernel
theorem dJ6_bitCount_0f7a4_34 : decode cJ6_bitCount_0f7a4 34 = .ok (.iload_n 0, 1) := by decide +kernel
theorem dJ6_bitCount_0f7a4_35 : decode cJ6_bitCount_0f7a4 35 = .ok (.iload_n 0, 1) := by decide +kernel
theorem dJ6_bitCount_0f7a4_36 : decode cJ6_bitCount_0f7a4 36 = .ok (.bipush 8, 2) := by decide +kernel
theorem dJ6_bitCount_0f7a4_38 : decode cJ6_bitCount_0f7a4 38 = .ok (.iushr, 1) := by decide +kernel
theorem dJ6_bitCount_0f7a4_39 : decode cJ6_bitCount_0f7a4 39 = .ok (.iadd, 1) := by decide +kernel
theorem dJ6_bitCount_0f7a4_40 : decode cJ6_bitCount_0f7a4 40 = .ok (.istore_n 0, 1) := by decide +kernel
theorem dJ6_bitCount_0f7a4_41 : decode cJ6_bitCount_0f7a4 41 = .ok (.iload_n 0, 1) := by decide +kernel
theorem dJ6_bitCount_0f7a4_42 : decode cJ6_bitCount_0f7a4 42 = .ok (.iload_n 0, 1) := by decide +kernel
theorem dJ6_bitCount_0f7a4_43 : decode cJ6_bitCount_0f7a4 43 = .ok (.bipush 16, 2) := by decide +kernel
theorem dJ6_bitCount_0f7a4_45 : decode cJ6_bitCount_0f7a4 45 = .ok (.iushr, 1) := by decide +kernel
theorem dJ6_bitCount_0f7a4_46 : decode cJ6_bitCount_0f7a4 46 = .ok (.iadd, 1) := by decide +kernel
theorem dJ6_bitCount_0f7a4_47 : decode cJ6_bitCount_0f7a4 47 = .ok (.istore_n 0, 1) := by decide +kernel
theorem dJ6_bitCount_0f7a4_48 : decode cJ6_bitCount_0f7a4 48 = .ok (.iload_n 0, 1) := by decide +kernel
theorem dJ6_bitCount_0f7a4_49 : decode cJ6_bitCount_0f7a4 49 = .ok (.bipush 63, 2) := by decide +kernel
theorem dJ6_bitCount_0f7a4_51 : decode cJ6_bitCount_0f7a4 51 = .ok (.iand, 1) := by decide +kernel
theorem dJ6_bitCount_0f7a4_52 : decode cJ6_bitCount_0f7a4 52 = .ok (.ireturn, 1) := by decide +kernel
theorem lc_RJ6_265 : Cond.constant RJ6 265 1431655765 ∈ wA := wA_t (wt2 (List.mem_of_getElem? (i := 225) (by decide +kernel))) (by decide +kernel)
theorem lc_RJ6_266 : Cond.constant RJ6 266 858993459 ∈ wA := wA_t (wt2 (List.mem_of_getElem? (i := 226) (by decide +kernel))) (by decide +kernel)
theorem lc_RJ6_267 : Cond.constant RJ6 267 252645135 ∈ wA := wA_t (wt2 (List.mem_of_getElem? (i := 227) (by decide +kernel))) (by decide +kernel)
def rm_J6_bitCount_0f7a4 : Room := { frames := 0, cells := 0, slots := 0, locals := 0 }
def f_J6_bitCount_0f7a4 (x0 : Int32) : Option (Int32) :=
  gLet (x0 - (((Int32.toUInt32 x0 >>> (Int32.toUInt32 (1 : Int32) &&& Int32.toUInt32 31)).toInt32) &&& (1431655765 : Int32))) fun v1 =>
  gLet ((v1 &&& (858993459 : Int32)) + (((Int32.toUInt32 v1 >>> (Int32.toUInt32 (2 : Int32) &&& Int32.toUInt32 31)).toInt32) &&& (858993459 : Int32))) fun v2 =>
  gLet ((v2 + ((Int32.toUInt32 v2 >>> (Int32.toUInt32 (4 : Int32) &&& Int32.toUInt32 31)).toInt32)) &&& (252645135 : Int32)) fun v3 =>
  gLet (v3 + ((Int32.toUInt32 v3 >>> (Int32.toUInt32 (8 : Int32) &&& Int32.toUInt32 31)).toInt32)) fun v4 =>
  gLet (v4 + ((Int32.toUInt32 v4 >>> (Int32.toUInt32 (16 : Int32) &&& Int32.toUInt32 31)).toInt32)) fun v5 =>
  some (v5 &&& (63 : Int32))
set_option maxHeartbeats 4000000 in
set_option maxRecDepth 100000 in
theorem c_J6_bitCount_0f7a4 (l : Launch) (X : gX) (τ : gτ) (x0 : Int32) (G : gG)  {r : Int32}  (h : f_J6_bitCount_0f7a4 x0 = some r) : gM l X τ yJ6_bitCount_0f7a4 cJ6_bitCount_0f7a4 1 (some .int) rm_J6_bitCount_0f7a4 [.int x0] G (some (.int r)) G := by
  refine g_body (by decide +kernel) (Nat.le_of_ble_eq_true rfl) ?_
  intro p e s m args below meth c ls fx hr hw hl
  have fx : gFx X p s m args meth c cJ6_bitCount_0f7a4 1 RJ6 := fx
  have hl : lv_has ls 1 [(0, .int x0)] := hl
  have hok : gOk (f_J6_bitCount_0f7a4 x0) (fun q => q = r) := ⟨_, h, rfl⟩
  unfold f_J6_bitCount_0f7a4 at hok
  show W p l e rm_J6_bitCount_0f7a4 s m args below meth c s.heap [] 0 0 (MQ below (gQ X τ (some (.int r)) G) args s 0 0 (gFree X)) _
  refine lv_iload_n fx.1 fx.2.1 dJ6_bitCount_0f7a4_0 rfl (lv_at hl 0 rfl) ?_
  refine lv_iload_n fx.1 fx.2.1 dJ6_bitCount_0f7a4_1 rfl (lv_at hl 0 rfl) ?_
  refine lv_iconst (v := 1) fx.1 fx.2.1 dJ6_bitCount_0f7a4_2 (by decide) ?_
  refine lv_iushr fx.1 fx.2.1 dJ6_bitCount_0f7a4_3 rfl ?_
  refine lv_ldcw fx.1 fx.2.1 fx.2.2.2.1 (fx.2.2.2.2.1 _ lc_RJ6_265) dJ6_bitCount_0f7a4_4 ?_
  refine lv_iand fx.1 fx.2.1 dJ6_bitCount_0f7a4_7 ?_
  refine lv_isub fx.1 fx.2.1 dJ6_bitCount_0f7a4_8 ?_
  refine g_leti hok (fun v1 hok => ?_)
  refine lv_istore_n (lv' := [(0, .int v1)]) fx.1 fx.2.1 dJ6_bitCount_0f7a4_9 rfl hl (by decide) rfl (fun ls hl => ?_)
  refine lv_iload_n fx.1 fx.2.1 dJ6_bitCount_0f7a4_10 rfl (lv_at hl 0 rfl) ?_
  refine lv_ldcw fx.1 fx.2.1 fx.2.2.2.1 (fx.2.2.2.2.1 _ lc_RJ6_266) dJ6_bitCount_0f7a4_11 ?_
  refine lv_iand fx.1 fx.2.1 dJ6_bitCount_0f7a4_14 ?_
  refine lv_iload_n fx.1 fx.2.1 dJ6_bitCount_0f7a4_15 rfl (lv_at hl 0 rfl) ?_
  refine lv_iconst (v := 2) fx.1 fx.2.1 dJ6_bitCount_0f7a4_16 (by decide) ?_
  refine lv_iushr fx.1 fx.2.1 dJ6_bitCount_0f7a4_17 rfl ?_
  refine lv_ldcw fx.1 fx.2.1 fx.2.2.2.1 (fx.2.2.2.2.1 _ lc_RJ6_266) dJ6_bitCount_0f7a4_18 ?_
  refine lv_iand fx.1 fx.2.1 dJ6_bitCount_0f7a4_21 ?_
  refine lv_iadd fx.1 fx.2.1 dJ6_bitCount_0f7a4_22 ?_
  refine g_leti hok (fun v2 hok => ?_)
  refine lv_istore_n (lv' := [(0, .int v2)]) fx.1 fx.2.1 dJ6_bitCount_0f7a4_23 rfl hl (by decide) rfl (fun ls hl => ?_)
  refine lv_iload_n fx.1 fx.2.1 dJ6_bitCount_0f7a4_24 rfl (lv_at hl 0 rfl) ?_
  refine lv_iload_n fx.1 fx.2.1 dJ6_bitCount_0f7a4_25 rfl (lv_at hl 0 rfl) ?_
  refine lv_iconst (v := 4) fx.1 fx.2.1 dJ6_bitCount_0f7a4_26 (by decide) ?_
  refine lv_iushr fx.1 fx.2.1 dJ6_bitCount_0f7a4_27 rfl ?_
  refine lv_iadd fx.1 fx.2.1 dJ6_bitCount_0f7a4_28 ?_
  refine lv_ldcw fx.1 fx.2.1 fx.2.2.2.1 (fx.2.2.2.2.1 _ lc_RJ6_267) dJ6_bitCount_0f7a4_29 ?_
  refine lv_iand fx.1 fx.2.1 dJ6_bitCount_0f7a4_32 ?_
  refine g_leti hok (fun v3 hok => ?_)
  refine lv_istore_n (lv' := [(0, .int v3)]) fx.1 fx.2.1 dJ6_bitCount_0f7a4_33 rfl hl (by decide) rfl (fun ls hl => ?_)
  refine lv_iload_n fx.1 fx.2.1 dJ6_bitCount_0f7a4_34 rfl (lv_at hl 0 rfl) ?_
  refine lv_iload_n fx.1 fx.2.1 dJ6_bitCount_0f7a4_35 rfl (lv_at hl 0 rfl) ?_
  refine lv_bipush (v := 8) fx.1 fx.2.1 dJ6_bitCount_0f7a4_36 (by decide) ?_
  refine lv_iushr fx.1 fx.2.1 dJ6_bitCount_0f7a4_38 rfl ?_
  refine lv_iadd fx.1 fx.2.1 dJ6_bitCount_0f7a4_39 ?_
  refine g_leti hok (fun v4 hok => ?_)
  refine lv_istore_n (lv' := [(0, .int v4)]) fx.1 fx.2.1 dJ6_bitCount_0f7a4_40 rfl hl (by decide) rfl (fun ls hl => ?_)
  refine lv_iload_n fx.1 fx.2.1 dJ6_bitCount_0f7a4_41 rfl (lv_at hl 0 rfl) ?_
  refine lv_iload_n fx.1 fx.2.1 dJ6_bitCount_0f7a4_42 rfl (lv_at hl 0 rfl) ?_
  refine lv_bipush (v := 16) fx.1 fx.2.1 dJ6_bitCount_0f7a4_43 (by decide) ?_
  refine lv_iushr fx.1 fx.2.1 dJ6_bitCount_0f7a4_45 rfl ?_
  refine lv_iadd fx.1 fx.2.1 dJ6_bitCount_0f7a4_46 ?_
  refine g_leti hok (fun v5 hok => ?_)
  refine lv_istore_n (lv' := [(0, .int v5)]) fx.1 fx.2.1 dJ6_bitCount_0f7a4_47 rfl hl (by decide) rfl (fun ls hl => ?_)
  refine lv_iload_n fx.1 fx.2.1 dJ6_bitCount_0f7a4_48 rfl (lv_at hl 0 rfl) ?_
  refine lv_bipush (v := 63) fx.1 fx.2.1 dJ6_bitCount_0f7a4_49 (by decide) ?_
  refine lv_iand fx.1 fx.2.1 dJ6_bitCount_0f7a4_51 ?_
  cases gOk_some hok
  exact g_iret fx hw hr dJ6_bitCount_0f7a4_52
