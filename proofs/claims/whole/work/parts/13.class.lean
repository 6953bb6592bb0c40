theorem dX3_recall_0 : decode cX3_recall 0 = .ok (.aload_n 0, 1) := by decide +kernel
theorem dX3_recall_1 : decode cX3_recall 1 = .ok (.getfield 26, 3) := by decide +kernel
theorem dX3_recall_4 : decode cX3_recall 4 = .ok (.ifCond .ne 5, 3) := by decide +kernel
theorem dX3_recall_7 : decode cX3_recall 7 = .ok (.iconst 0, 1) := by decide +kernel
theorem dX3_recall_8 : decode cX3_recall 8 = .ok (.ireturn, 1) := by decide +kernel
theorem dX3_recall_9 : decode cX3_recall 9 = .ok (.aload_n 0, 1) := by decide +kernel
theorem dX3_recall_10 : decode cX3_recall 10 = .ok (.dup, 1) := by decide +kernel
theorem dX3_recall_11 : decode cX3_recall 11 = .ok (.getfield 26, 3) := by decide +kernel
theorem dX3_recall_14 : decode cX3_recall 14 = .ok (.iconst 1, 1) := by decide +kernel
theorem dX3_recall_15 : decode cX3_recall 15 = .ok (.isub, 1) := by decide +kernel
theorem dX3_recall_16 : decode cX3_recall 16 = .ok (.putfield 26, 3) := by decide +kernel
theorem dX3_recall_19 : decode cX3_recall 19 = .ok (.aload_n 0, 1) := by decide +kernel
theorem dX3_recall_20 : decode cX3_recall 20 = .ok (.aload_n 0, 1) := by decide +kernel
theorem dX3_recall_21 : decode cX3_recall 21 = .ok (.getfield 18, 3) := by decide +kernel
theorem dX3_recall_24 : decode cX3_recall 24 = .ok (.bipush 12, 2) := by decide +kernel
theorem dX3_recall_26 : decode cX3_recall 26 = .ok (.iadd, 1) := by decide +kernel
theorem dX3_recall_27 : decode cX3_recall 27 = .ok (.iconst 1, 1) := by decide +kernel
theorem dX3_recall_28 : decode cX3_recall 28 = .ok (.isub, 1) := by decide +kernel
theorem dX3_recall_29 : decode cX3_recall 29 = .ok (.bipush 12, 2) := by decide +kernel
theorem dX3_recall_31 : decode cX3_recall 31 = .ok (.irem, 1) := by decide +kernel
theorem dX3_recall_32 : decode cX3_recall 32 = .ok (.putfield 18, 3) := by decide +kernel
theorem dX3_recall_35 : decode cX3_recall 35 = .ok (.aload_n 1, 1) := by decide +kernel
theorem dX3_recall_36 : decode cX3_recall 36 = .ok (.aload_n 0, 1) := by decide +kernel
theorem dX3_recall_37 : decode cX3_recall 37 = .ok (.getfield 11, 3) := by decide +kernel
theorem dX3_recall_40 : decode cX3_recall 40 = .ok (.aload_n 0, 1) := by decide +kernel
theorem dX3_recall_41 : decode cX3_recall 41 = .ok (.getfield 18, 3) := by decide +kernel
theorem dX3_recall_44 : decode cX3_recall 44 = .ok (.aaload, 1) := by decide +kernel
theorem dX3_recall_45 : decode cX3_recall 45 = .ok (.invokevirtual 22, 3) := by decide +kernel
theorem dX3_recall_48 : decode cX3_recall 48 = .ok (.iconst 1, 1) := by decide +kernel
theorem dX3_recall_49 : decode cX3_recall 49 = .ok (.ireturn, 1) := by decide +kernel
def rm_X3_recall : Room := { frames := 3, cells := 0, slots := 0, locals := 83 }
def f_X3_recall (τ : gτ) (n : Nat) (x0 : Nat) (x1 : Nat) (G : gG) : Option (Int32 × gG) :=
  if (gi G 3 1 x0) = 0 then (some (0, G))
  else (gLet (gsi G 3 1 x0 ((gi G 3 1 x0) - (1 : Int32))) fun G1 =>
  gLet (gsi G1 3 2 x0 ((((gi G1 3 2 x0) + (12 : Int32)) - (1 : Int32)) - (((gi G1 3 2 x0) + (12 : Int32)) - (1 : Int32)) / (12 : Int32) * (12 : Int32))) fun G2 =>
  (gr G2 3 0 x0).bind fun a3 =>
  gchk (gIn (gi G2 3 2 x0) (gn τ a3)) <| (gq G2 a3 (Int32.toNatClampNeg (gi G2 3 2 x0))).bind fun a4 =>
  (f_X6_become τ n x1 a4 G2).bind fun G5 =>
  some (1, G5))
set_option maxHeartbeats 4000000 in
set_option maxRecDepth 100000 in
theorem c_X3_recall (l : Launch) (X : gX) (τ : gτ) (n : Nat) (x0 : Nat) (x1 : Nat) (G : gG) (h0 : gK τ x0 3) (h1 : gK τ x1 6) {r : Int32} {G' : gG} (h : f_X3_recall τ n x0 x1 G = some (r, G')) : gM l X τ yX3_recall cX3_recall 2 (some .boolean) rm_X3_recall [.ref x0, .ref x1] G (some (.int r)) G' := by
  refine g_body (by decide +kernel) (Nat.le_of_ble_eq_true rfl) ?_
  intro p e s m args below meth c ls fx hr hw hl
  have fx : gFx X p s m args meth c cX3_recall 2 RX3 := fx
  have hl : lv_has ls 2 [(0, .ref x0), (1, .ref x1)] := hl
  have hok : gOk (f_X3_recall τ n x0 x1 G) (fun q => q = (r, G')) := ⟨_, h, rfl⟩
  unfold f_X3_recall at hok
  show W p l e rm_X3_recall s m args below meth c s.heap [] 0 0 (MQ below (gQ X τ (some (.int r)) G') args s 0 0 (gFree X)) _
  refine lv_aload_n fx.1 fx.2.1 dX3_recall_0 rfl (lv_at hl 0 rfl) ?_
  refine g_geti fx hw h0 lf_RX3_26 rfl dX3_recall_1 ?_
  refine g_if_ne (tgt := 9) fx dX3_recall_4 (by decide) hok (fun hok => ?_) (fun hok => ?_)
  · refine lv_iconst (v := 0) fx.1 fx.2.1 dX3_recall_7 (by decide) ?_
    cases gOk_some hok
    exact g_zret fx hw hr (by decide) dX3_recall_8
  · refine lv_aload_n fx.1 fx.2.1 dX3_recall_9 rfl (lv_at hl 0 rfl) ?_
    refine lv_dup fx.1 fx.2.1 dX3_recall_10 rfl ?_
    refine g_geti fx hw h0 lf_RX3_26 rfl dX3_recall_11 ?_
    refine lv_iconst (v := 1) fx.1 fx.2.1 dX3_recall_14 (by decide) ?_
    refine lv_isub fx.1 fx.2.1 dX3_recall_15 ?_
    refine g_puti fx hw h0 lp_RX3_26 rfl rfl dX3_recall_16 hok (fun G1 H locs hw hok => ?_)
    refine lv_aload_n fx.1 fx.2.1 dX3_recall_19 rfl (lv_at hl 0 rfl) ?_
    refine lv_aload_n fx.1 fx.2.1 dX3_recall_20 rfl (lv_at hl 0 rfl) ?_
    refine g_geti fx hw h0 lf_RX3_18 rfl dX3_recall_21 ?_
    refine lv_bipush (v := 12) fx.1 fx.2.1 dX3_recall_24 (by decide) ?_
    refine lv_iadd fx.1 fx.2.1 dX3_recall_26 ?_
    refine lv_iconst (v := 1) fx.1 fx.2.1 dX3_recall_27 (by decide) ?_
    refine lv_isub fx.1 fx.2.1 dX3_recall_28 ?_
    refine lv_bipush (v := 12) fx.1 fx.2.1 dX3_recall_29 (by decide) ?_
    refine lv_irem fx.1 fx.2.1 dX3_recall_31 (by decide) ?_
    refine g_puti fx hw h0 lp_RX3_18 rfl rfl dX3_recall_32 hok (fun G2 H locs hw hok => ?_)
    refine lv_aload_n fx.1 fx.2.1 dX3_recall_35 rfl (lv_at hl 1 rfl) ?_
    refine lv_aload_n fx.1 fx.2.1 dX3_recall_36 rfl (lv_at hl 0 rfl) ?_
    refine g_getr fx hw h0 lf_RX3_11 rfl dX3_recall_37 hok (fun a3 h_a3 hok => ?_)
    refine lv_aload_n fx.1 fx.2.1 dX3_recall_40 rfl (lv_at hl 0 rfl) ?_
    refine g_geti fx hw h0 lf_RX3_18 rfl dX3_recall_41 ?_
    refine g_aald fx hw 16 4 h_a3 (by decide) (by decide) rfl (κ' := 6) rfl dX3_recall_44 hok (fun a4 h_a4 hok => ?_)
    obtain ⟨G5, hf, hok⟩ := gOk_bind hok
    refine g_callV0 (κ := 6) fx hw (c_X6_become l X τ n x1 a4 G2 h1 h_a4 hf) lv_RX3_22 ⟨rfl, rfl⟩ rfl rfl h1 rfl hl.1 rfl ⟨Nat.le_of_ble_eq_true rfl, Nat.le_of_ble_eq_true rfl⟩ (Nat.le_of_ble_eq_true rfl) ⟨Nat.le_of_ble_eq_true rfl, Nat.le_of_ble_eq_true rfl⟩ dX3_recall_45 (fun H locs hw => ?_)
    refine lv_iconst (v := 1) fx.1 fx.2.1 dX3_recall_48 (by decide) ?_
    cases gOk_some hok
    exact g_zret fx hw hr (by decide) dX3_recall_49
theorem dX3_forget_0 : decode cX3_forget 0 = .ok (.aload_n 0, 1) := by decide +kernel
theorem dX3_forget_1 : decode cX3_forget 1 = .ok (.iconst 0, 1) := by decide +kernel
theorem dX3_forget_2 : decode cX3_forget 2 = .ok (.putfield 26, 3) := by decide +kernel
theorem dX3_forget_5 : decode cX3_forget 5 = .ok (.return_, 1) := by decide +kernel
def rm_X3_forget : Room := { frames := 0, cells := 0, slots := 0, locals := 0 }
def f_X3_forget (x0 : Nat) (G : gG) : Option (gG) :=
  gLet (gsi G 3 1 x0 (0 : Int32)) fun G1 =>
  some G1
set_option maxHeartbeats 4000000 in
set_option maxRecDepth 100000 in
theorem c_X3_forget (l : Launch) (X : gX) (τ : gτ) (x0 : Nat) (G : gG) (h0 : gK τ x0 3) {G' : gG} (h : f_X3_forget x0 G = some G') : gM l X τ yX3_forget cX3_forget 1 none rm_X3_forget [.ref x0] G none G' := by
  refine g_body (by decide +kernel) (Nat.le_of_ble_eq_true rfl) ?_
  intro p e s m args below meth c ls fx hr hw hl
  have fx : gFx X p s m args meth c cX3_forget 1 RX3 := fx
  have hl : lv_has ls 1 [(0, .ref x0)] := hl
  have hok : gOk (f_X3_forget x0 G) (fun q => q = G') := ⟨_, h, rfl⟩
  unfold f_X3_forget at hok
  show W p l e rm_X3_forget s m args below meth c s.heap [] 0 0 (MQ below (gQ X τ none G') args s 0 0 (gFree X)) _
  refine lv_aload_n fx.1 fx.2.1 dX3_forget_0 rfl (lv_at hl 0 rfl) ?_
  refine lv_iconst (v := 0) fx.1 fx.2.1 dX3_forget_1 (by decide) ?_
  refine g_puti fx hw h0 lp_RX3_26 rfl rfl dX3_forget_2 hok (fun G1 H locs hw hok => ?_)
  cases gOk_some hok
  exact g_vret fx hw hr dX3_forget_5
theorem dX4_isFilledBy_0 : decode cX4_isFilledBy 0 = .ok (.iload_n 2, 1) := by decide +kernel
theorem dX4_isFilledBy_1 : decode cX4_isFilledBy 1 = .ok (.aload_n 0, 1) := by decide +kernel
theorem dX4_isFilledBy_2 : decode cX4_isFilledBy 2 = .ok (.getfield 7, 3) := by decide +kernel
theorem dX4_isFilledBy_5 : decode cX4_isFilledBy 5 = .ok (.if_icmp .lt 15, 3) := by decide +kernel
theorem dX4_isFilledBy_8 : decode cX4_isFilledBy 8 = .ok (.iload_n 1, 1) := by decide +kernel
theorem dX4_isFilledBy_9 : decode cX4_isFilledBy 9 = .ok (.aload_n 0, 1) := by decide +kernel
theorem dX4_isFilledBy_10 : decode cX4_isFilledBy 10 = .ok (.getfield 13, 3) := by decide +kernel
theorem dX4_isFilledBy_13 : decode cX4_isFilledBy 13 = .ok (.if_icmp .lt 7, 3) := by decide +kernel
theorem dX4_isFilledBy_16 : decode cX4_isFilledBy 16 = .ok (.iconst 1, 1) := by decide +kernel
theorem dX4_isFilledBy_17 : decode cX4_isFilledBy 17 = .ok (.goto 4, 3) := by decide +kernel
theorem dX4_isFilledBy_20 : decode cX4_isFilledBy 20 = .ok (.iconst 0, 1) := by decide +kernel
theorem dX4_isFilledBy_21 : decode cX4_isFilledBy 21 = .ok (.ireturn, 1) := by decide +kernel
def rm_X4_isFilledBy : Room := { frames := 0, cells := 0, slots := 0, locals := 0 }
def f_X4_isFilledBy (x0 : Nat) (x1 : Int32) (x2 : Int32) (G : gG) : Option (Int32) :=
  if x2 < (gi G 4 0 x0) then (some (0))
  else (if x1 < (gi G 4 1 x0) then (some (0))
  else (some (1)))
set_option maxHeartbeats 4000000 in
set_option maxRecDepth 100000 in
theorem c_X4_isFilledBy (l : Launch) (X : gX) (τ : gτ) (x0 : Nat) (x1 : Int32) (x2 : Int32) (G : gG) (h0 : gK τ x0 4) {r : Int32}  (h : f_X4_isFilledBy x0 x1 x2 G = some r) : gM l X τ yX4_isFilledBy cX4_isFilledBy 3 (some .boolean) rm_X4_isFilledBy [.ref x0, .int x1, .int x2] G (some (.int r)) G := by
  refine g_body (by decide +kernel) (Nat.le_of_ble_eq_true rfl) ?_
  intro p e s m args below meth c ls fx hr hw hl
  have fx : gFx X p s m args meth c cX4_isFilledBy 3 RX4 := fx
  have hl : lv_has ls 3 [(0, .ref x0), (1, .int x1), (2, .int x2)] := hl
  have hok : gOk (f_X4_isFilledBy x0 x1 x2 G) (fun q => q = r) := ⟨_, h, rfl⟩
  unfold f_X4_isFilledBy at hok
  show W p l e rm_X4_isFilledBy s m args below meth c s.heap [] 0 0 (MQ below (gQ X τ (some (.int r)) G) args s 0 0 (gFree X)) _
  refine lv_iload_n fx.1 fx.2.1 dX4_isFilledBy_0 rfl (lv_at hl 2 rfl) ?_
  refine lv_aload_n fx.1 fx.2.1 dX4_isFilledBy_1 rfl (lv_at hl 0 rfl) ?_
  refine g_geti fx hw h0 lf_RX4_7 rfl dX4_isFilledBy_2 ?_
  refine g_icmp_lt (tgt := 20) fx dX4_isFilledBy_5 (by decide) hok (fun hok => ?_) (fun hok => ?_)
  · refine lv_iconst (v := 0) fx.1 fx.2.1 dX4_isFilledBy_20 (by decide) ?_
    cases gOk_some hok
    exact g_zret fx hw hr (by decide) dX4_isFilledBy_21
  · refine lv_iload_n fx.1 fx.2.1 dX4_isFilledBy_8 rfl (lv_at hl 1 rfl) ?_
    refine lv_aload_n fx.1 fx.2.1 dX4_isFilledBy_9 rfl (lv_at hl 0 rfl) ?_
    refine g_geti fx hw h0 lf_RX4_13 rfl dX4_isFilledBy_10 ?_
    refine g_icmp_lt (tgt := 20) fx dX4_isFilledBy_13 (by decide) hok (fun hok => ?_) (fun hok => ?_)
    · refine lv_iconst (v := 0) fx.1 fx.2.1 dX4_isFilledBy_20 (by decide) ?_
      cases gOk_some hok
      exact g_zret fx hw hr (by decide) dX4_isFilledBy_21
    · refine lv_iconst (v := 1) fx.1 fx.2.1 dX4_isFilledBy_16 (by decide) ?_
      refine lv_goto (tgt := 21) fx.1 fx.2.1 dX4_isFilledBy_17 (by decide) ?_
      cases gOk_some hok
      exact g_zret fx hw hr (by decide) dX4_isFilledBy_21
theorem dX5_beLaid_0 : decode cX5_beLaid 0 = .ok (.aload_n 0, 1) := by decide +kernel
theorem dX5_beLaid_1 : decode cX5_beLaid 1 = .ok (.iload_n 1, 1) := by decide +kernel
theorem dX5_beLaid_2 : decode cX5_beLaid 2 = .ok (.putfield 9, 3) := by decide +kernel
theorem dX5_beLaid_5 : decode cX5_beLaid 5 = .ok (.aload_n 0, 1) := by decide +kernel
theorem dX5_beLaid_6 : decode cX5_beLaid 6 = .ok (.iload_n 2, 1) := by decide +kernel
theorem dX5_beLaid_7 : decode cX5_beLaid 7 = .ok (.putfield 15, 3) := by decide +kernel
theorem dX5_beLaid_10 : decode cX5_beLaid 10 = .ok (.aload_n 0, 1) := by decide +kernel
theorem dX5_beLaid_11 : decode cX5_beLaid 11 = .ok (.iload_n 3, 1) := by decide +kernel
theorem dX5_beLaid_12 : decode cX5_beLaid 12 = .ok (.putfield 18, 3) := by decide +kernel
theorem dX5_beLaid_15 : decode cX5_beLaid 15 = .ok (.aload_n 0, 1) := by decide +kernel
theorem dX5_beLaid_16 : decode cX5_beLaid 16 = .ok (.iload 4, 2) := by decide +kernel
theorem dX5_beLaid_18 : decode cX5_beLaid 18 = .ok (.putfield 21, 3) := by decide +kernel
theorem dX5_beLaid_21 : decode cX5_beLaid 21 = .ok (.aload_n 0, 1) := by decide +kernel
theorem dX5_beLaid_22 : decode cX5_beLaid 22 = .ok (.iconst 0, 1) := by decide +kernel
theorem dX5_beLaid_23 : decode cX5_beLaid 23 = .ok (.putfield 24, 3) := by decide +kernel
theorem dX5_beLaid_26 : decode cX5_beLaid 26 = .ok (.aload_n 0, 1) := by decide +kernel
theorem dX5_beLaid_27 : decode cX5_beLaid 27 = .ok (.iconst 0, 1) := by decide +kernel
theorem dX5_beLaid_28 : decode cX5_beLaid 28 = .ok (.putfield 27, 3) := by decide +kernel
theorem dX5_beLaid_31 : decode cX5_beLaid 31 = .ok (.aload_n 0, 1) := by decide +kernel
theorem dX5_beLaid_32 : decode cX5_beLaid 32 = .ok (.iconst 1, 1) := by decide +kernel
theorem dX5_beLaid_33 : decode cX5_beLaid 33 = .ok (.putfield 30, 3) := by decide +kernel
theorem dX5_beLaid_36 : decode cX5_beLaid 36 = .ok (.aload_n 0, 1) := by decide +kernel
theorem dX5_beLaid_37 : decode cX5_beLaid 37 = .ok (.iconst 0, 1) := by decide +kernel
theorem dX5_beLaid_38 : decode cX5_beLaid 38 = .ok (.putfield 33, 3) := by decide +kernel
theorem dX5_beLaid_41 : decode cX5_beLaid 41 = .ok (.aload_n 0, 1) := by decide +kernel
theorem dX5_beLaid_42 : decode cX5_beLaid 42 = .ok (.iconst 0, 1) := by decide +kernel
theorem dX5_beLaid_43 : decode cX5_beLaid 43 = .ok (.putfield 36, 3) := by decide +kernel
theorem dX5_beLaid_46 : decode cX5_beLaid 46 = .ok (.aload_n 0, 1) := by decide +kernel
theorem dX5_beLaid_47 : decode cX5_beLaid 47 = .ok (.iconst 0, 1) := by decide +kernel
theorem dX5_beLaid_48 : decode cX5_beLaid 48 = .ok (.putfield 40, 3) := by decide +kernel
theorem dX5_beLaid_51 : decode cX5_beLaid 51 = .ok (.return_, 1) := by decide +kernel
def rm_X5_beLaid : Room := { frames := 0, cells := 0, slots := 0, locals := 0 }
def f_X5_beLaid (x0 : Nat) (x1 : Int32) (x2 : Int32) (x3 : Int32) (x4 : Int32) (G : gG) : Option (gG) :=
  gLet (gsi G 5 0 x0 x1) fun G1 =>
  gLet (gsi G1 5 1 x0 x2) fun G2 =>
  gLet (gsi G2 5 2 x0 x3) fun G3 =>
  gLet (gsi G3 5 3 x0 x4) fun G4 =>
  gLet (gsi G4 5 4 x0 (0 : Int32)) fun G5 =>
  gLet (gsi G5 5 5 x0 (0 : Int32)) fun G6 =>
  gLet (gsi G6 5 6 x0 (1 : Int32)) fun G7 =>
  gLet (gsi G7 5 7 x0 (0 : Int32)) fun G8 =>
  gLet (gsi G8 5 8 x0 (0 : Int32)) fun G9 =>
  gLet (gsi G9 5 9 x0 (0 : Int32)) fun G10 =>
  some G10
set_option maxHeartbeats 4000000 in
set_option maxRecDepth 100000 in
theorem c_X5_beLaid (l : Launch) (X : gX) (τ : gτ) (x0 : Nat) (x1 : Int32) (x2 : Int32) (x3 : Int32) (x4 : Int32) (G : gG) (h0 : gK τ x0 5) {G' : gG} (h : f_X5_beLaid x0 x1 x2 x3 x4 G = some G') : gM l X τ yX5_beLaid cX5_beLaid 5 none rm_X5_beLaid [.ref x0, .int x1, .int x2, .int x3, .int x4] G none G' := by
  refine g_body (by decide +kernel) (Nat.le_of_ble_eq_true rfl) ?_
  intro p e s m args below meth c ls fx hr hw hl
  have fx : gFx X p s m args meth c cX5_beLaid 5 RX5 := fx
  have hl : lv_has ls 5 [(0, .ref x0), (1, .int x1), (2, .int x2), (3, .int x3), (4, .int x4)] := hl
  have hok : gOk (f_X5_beLaid x0 x1 x2 x3 x4 G) (fun q => q = G') := ⟨_, h, rfl⟩
  unfold f_X5_beLaid at hok
  show W p l e rm_X5_beLaid s m args below meth c s.heap [] 0 0 (MQ below (gQ X τ none G') args s 0 0 (gFree X)) _
  refine lv_aload_n fx.1 fx.2.1 dX5_beLaid_0 rfl (lv_at hl 0 rfl) ?_
  refine lv_iload_n fx.1 fx.2.1 dX5_beLaid_1 rfl (lv_at hl 1 rfl) ?_
  refine g_puti fx hw h0 lp_RX5_9 rfl rfl dX5_beLaid_2 hok (fun G1 H locs hw hok => ?_)
  refine lv_aload_n fx.1 fx.2.1 dX5_beLaid_5 rfl (lv_at hl 0 rfl) ?_
  refine lv_iload_n fx.1 fx.2.1 dX5_beLaid_6 rfl (lv_at hl 2 rfl) ?_
  refine g_puti fx hw h0 lp_RX5_15 rfl rfl dX5_beLaid_7 hok (fun G2 H locs hw hok => ?_)
  refine lv_aload_n fx.1 fx.2.1 dX5_beLaid_10 rfl (lv_at hl 0 rfl) ?_
  refine lv_iload_n fx.1 fx.2.1 dX5_beLaid_11 rfl (lv_at hl 3 rfl) ?_
  refine g_puti fx hw h0 lp_RX5_18 rfl rfl dX5_beLaid_12 hok (fun G3 H locs hw hok => ?_)
  refine lv_aload_n fx.1 fx.2.1 dX5_beLaid_15 rfl (lv_at hl 0 rfl) ?_
  refine lv_iload fx.1 fx.2.1 dX5_beLaid_16 (lv_at hl 4 rfl) ?_
  refine g_puti fx hw h0 lp_RX5_21 rfl rfl dX5_beLaid_18 hok (fun G4 H locs hw hok => ?_)
  refine lv_aload_n fx.1 fx.2.1 dX5_beLaid_21 rfl (lv_at hl 0 rfl) ?_
  refine lv_iconst (v := 0) fx.1 fx.2.1 dX5_beLaid_22 (by decide) ?_
  refine g_puti fx hw h0 lp_RX5_24 rfl rfl dX5_beLaid_23 hok (fun G5 H locs hw hok => ?_)
  refine lv_aload_n fx.1 fx.2.1 dX5_beLaid_26 rfl (lv_at hl 0 rfl) ?_
  refine lv_iconst (v := 0) fx.1 fx.2.1 dX5_beLaid_27 (by decide) ?_
  refine g_puti fx hw h0 lp_RX5_27 rfl rfl dX5_beLaid_28 hok (fun G6 H locs hw hok => ?_)
  refine lv_aload_n fx.1 fx.2.1 dX5_beLaid_31 rfl (lv_at hl 0 rfl) ?_
  refine lv_iconst (v := 1) fx.1 fx.2.1 dX5_beLaid_32 (by decide) ?_
  refine g_puti fx hw h0 lp_RX5_30 rfl rfl dX5_beLaid_33 hok (fun G7 H locs hw hok => ?_)
  refine lv_aload_n fx.1 fx.2.1 dX5_beLaid_36 rfl (lv_at hl 0 rfl) ?_
  refine lv_iconst (v := 0) fx.1 fx.2.1 dX5_beLaid_37 (by decide) ?_
  refine g_puti fx hw h0 lp_RX5_33 rfl rfl dX5_beLaid_38 hok (fun G8 H locs hw hok => ?_)
  refine lv_aload_n fx.1 fx.2.1 dX5_beLaid_41 rfl (lv_at hl 0 rfl) ?_
  refine lv_iconst (v := 0) fx.1 fx.2.1 dX5_beLaid_42 (by decide) ?_
  refine g_putz fx hw h0 lp_RX5_36 rfl rfl (by decide) dX5_beLaid_43 hok (fun G9 H locs hw hok => ?_)
  refine lv_aload_n fx.1 fx.2.1 dX5_beLaid_46 rfl (lv_at hl 0 rfl) ?_
  refine lv_iconst (v := 0) fx.1 fx.2.1 dX5_beLaid_47 (by decide) ?_
  refine g_putz fx hw h0 lp_RX5_40 rfl rfl (by decide) dX5_beLaid_48 hok (fun G10 H locs hw hok => ?_)
  cases gOk_some hok
  exact g_vret fx hw hr dX5_beLaid_51
theorem dX5_isOf_0 : decode cX5_isOf 0 = .ok (.iload_n 1, 1) := by decide +kernel
theorem dX5_isOf_1 : decode cX5_isOf 1 = .ok (.aload_n 0, 1) := by decide +kernel
theorem dX5_isOf_2 : decode cX5_isOf 2 = .ok (.getfield 9, 3) := by decide +kernel
theorem dX5_isOf_5 : decode cX5_isOf 5 = .ok (.if_icmp .eq 19, 3) := by decide +kernel
theorem dX5_isOf_8 : decode cX5_isOf 8 = .ok (.iload_n 1, 1) := by decide +kernel
theorem dX5_isOf_9 : decode cX5_isOf 9 = .ok (.aload_n 0, 1) := by decide +kernel
theorem dX5_isOf_10 : decode cX5_isOf 10 = .ok (.getfield 15, 3) := by decide +kernel
theorem dX5_isOf_13 : decode cX5_isOf 13 = .ok (.if_icmp .eq 11, 3) := by decide +kernel
theorem dX5_isOf_16 : decode cX5_isOf 16 = .ok (.iload_n 1, 1) := by decide +kernel
theorem dX5_isOf_17 : decode cX5_isOf 17 = .ok (.aload_n 0, 1) := by decide +kernel
theorem dX5_isOf_18 : decode cX5_isOf 18 = .ok (.getfield 18, 3) := by decide +kernel
theorem dX5_isOf_21 : decode cX5_isOf 21 = .ok (.if_icmp .ne 7, 3) := by decide +kernel
theorem dX5_isOf_24 : decode cX5_isOf 24 = .ok (.iconst 1, 1) := by decide +kernel
theorem dX5_isOf_25 : decode cX5_isOf 25 = .ok (.goto 4, 3) := by decide +kernel
theorem dX5_isOf_28 : decode cX5_isOf 28 = .ok (.iconst 0, 1) := by decide +kernel
theorem dX5_isOf_29 : decode cX5_isOf 29 = .ok (.ireturn, 1) := by decide +kernel
def rm_X5_isOf : Room := { frames := 0, cells := 0, slots := 0, locals := 0 }
def f_X5_isOf (x0 : Nat) (x1 : Int32) (G : gG) : Option (Int32) :=
  if x1 = (gi G 5 0 x0) then (some (1))
  else (if x1 = (gi G 5 1 x0) then (some (1))
  else (if x1 = (gi G 5 2 x0) then (some (1))
  else (some (0))))
set_option maxHeartbeats 4000000 in
set_option maxRecDepth 100000 in
theorem c_X5_isOf (l : Launch) (X : gX) (τ : gτ) (x0 : Nat) (x1 : Int32) (G : gG) (h0 : gK τ x0 5) {r : Int32}  (h : f_X5_isOf x0 x1 G = some r) : gM l X τ yX5_isOf cX5_isOf 2 (some .boolean) rm_X5_isOf [.ref x0, .int x1] G (some (.int r)) G := by
  refine g_body (by decide +kernel) (Nat.le_of_ble_eq_true rfl) ?_
  intro p e s m args below meth c ls fx hr hw hl
  have fx : gFx X p s m args meth c cX5_isOf 2 RX5 := fx
  have hl : lv_has ls 2 [(0, .ref x0), (1, .int x1)] := hl
  have hok : gOk (f_X5_isOf x0 x1 G) (fun q => q = r) := ⟨_, h, rfl⟩
  unfold f_X5_isOf at hok
  show W p l e rm_X5_isOf s m args below meth c s.heap [] 0 0 (MQ below (gQ X τ (some (.int r)) G) args s 0 0 (gFree X)) _
  refine lv_iload_n fx.1 fx.2.1 dX5_isOf_0 rfl (lv_at hl 1 rfl) ?_
  refine lv_aload_n fx.1 fx.2.1 dX5_isOf_1 rfl (lv_at hl 0 rfl) ?_
  refine g_geti fx hw h0 lf_RX5_9 rfl dX5_isOf_2 ?_
  refine g_icmp_eq (tgt := 24) fx dX5_isOf_5 (by decide) hok (fun hok => ?_) (fun hok => ?_)
  · refine lv_iconst (v := 1) fx.1 fx.2.1 dX5_isOf_24 (by decide) ?_
    refine lv_goto (tgt := 29) fx.1 fx.2.1 dX5_isOf_25 (by decide) ?_
    cases gOk_some hok
    exact g_zret fx hw hr (by decide) dX5_isOf_29
  · refine lv_iload_n fx.1 fx.2.1 dX5_isOf_8 rfl (lv_at hl 1 rfl) ?_
    refine lv_aload_n fx.1 fx.2.1 dX5_isOf_9 rfl (lv_at hl 0 rfl) ?_
    refine g_geti fx hw h0 lf_RX5_15 rfl dX5_isOf_10 ?_
    refine g_icmp_eq (tgt := 24) fx dX5_isOf_13 (by decide) hok (fun hok => ?_) (fun hok => ?_)
    · refine lv_iconst (v := 1) fx.1 fx.2.1 dX5_isOf_24 (by decide) ?_
      refine lv_goto (tgt := 29) fx.1 fx.2.1 dX5_isOf_25 (by decide) ?_
      cases gOk_some hok
      exact g_zret fx hw hr (by decide) dX5_isOf_29
    · refine lv_iload_n fx.1 fx.2.1 dX5_isOf_16 rfl (lv_at hl 1 rfl) ?_
      refine lv_aload_n fx.1 fx.2.1 dX5_isOf_17 rfl (lv_at hl 0 rfl) ?_
      refine g_geti fx hw h0 lf_RX5_18 rfl dX5_isOf_18 ?_
      refine g_icmp_ne (tgt := 28) fx dX5_isOf_21 (by decide) hok (fun hok => ?_) (fun hok => ?_)
      · refine lv_iconst (v := 1) fx.1 fx.2.1 dX5_isOf_24 (by decide) ?_
        refine lv_goto (tgt := 29) fx.1 fx.2.1 dX5_isOf_25 (by decide) ?_
        cases gOk_some hok
        exact g_zret fx hw hr (by decide) dX5_isOf_29
      · refine lv_iconst (v := 0) fx.1 fx.2.1 dX5_isOf_28 (by decide) ?_
        cases gOk_some hok
        exact g_zret fx hw hr (by decide) dX5_isOf_29
theorem dX5_isFree_0 : decode cX5_isFree 0 = .ok (.aload_n 0, 1) := by decide +kernel
theorem dX5_isFree_1 : decode cX5_isFree 1 = .ok (.getfield 40, 3) := by decide +kernel
theorem dX5_isFree_4 : decode cX5_isFree 4 = .ok (.ifCond .ne 14, 3) := by decide +kernel
theorem dX5_isFree_7 : decode cX5_isFree 7 = .ok (.aload_n 0, 1) := by decide +kernel
theorem dX5_isFree_8 : decode cX5_isFree 8 = .ok (.getfield 33, 3) := by decide +kernel
theorem dX5_isFree_11 : decode cX5_isFree 11 = .ok (.ifCond .ne 7, 3) := by decide +kernel
theorem dX5_isFree_14 : decode cX5_isFree 14 = .ok (.iconst 1, 1) := by decide +kernel
theorem dX5_isFree_15 : decode cX5_isFree 15 = .ok (.goto 4, 3) := by decide +kernel
theorem dX5_isFree_18 : decode cX5_isFree 18 = .ok (.iconst 0, 1) := by decide +kernel
theorem dX5_isFree_19 : decode cX5_isFree 19 = .ok (.ireturn, 1) := by decide +kernel
def rm_X5_isFree : Room := { frames := 0, cells := 0, slots := 0, locals := 0 }
def f_X5_isFree (x0 : Nat) (G : gG) : Option (Int32) :=
  if (gi G 5 9 x0) = 0 then (if (gi G 5 7 x0) = 0 then (some (1))
  else (some (0)))
  else (some (0))
set_option maxHeartbeats 4000000 in
set_option maxRecDepth 100000 in
theorem c_X5_isFree (l : Launch) (X : gX) (τ : gτ) (x0 : Nat) (G : gG) (h0 : gK τ x0 5) {r : Int32}  (h : f_X5_isFree x0 G = some r) : gM l X τ yX5_isFree cX5_isFree 1 (some .boolean) rm_X5_isFree [.ref x0] G (some (.int r)) G := by
  refine g_body (by decide +kernel) (Nat.le_of_ble_eq_true rfl) ?_
  intro p e s m args below meth c ls fx hr hw hl
  have fx : gFx X p s m args meth c cX5_isFree 1 RX5 := fx
  have hl : lv_has ls 1 [(0, .ref x0)] := hl
  have hok : gOk (f_X5_isFree x0 G) (fun q => q = r) := ⟨_, h, rfl⟩
  unfold f_X5_isFree at hok
  show W p l e rm_X5_isFree s m args below meth c s.heap [] 0 0 (MQ below (gQ X τ (some (.int r)) G) args s 0 0 (gFree X)) _
  refine lv_aload_n fx.1 fx.2.1 dX5_isFree_0 rfl (lv_at hl 0 rfl) ?_
  refine g_geti fx hw h0 lf_RX5_40 rfl dX5_isFree_1 ?_
  refine g_if_ne (tgt := 18) fx dX5_isFree_4 (by decide) hok (fun hok => ?_) (fun hok => ?_)
  · refine lv_aload_n fx.1 fx.2.1 dX5_isFree_7 rfl (lv_at hl 0 rfl) ?_
    refine g_geti fx hw h0 lf_RX5_33 rfl dX5_isFree_8 ?_
    refine g_if_ne (tgt := 18) fx dX5_isFree_11 (by decide) hok (fun hok => ?_) (fun hok => ?_)
    · refine lv_iconst (v := 1) fx.1 fx.2.1 dX5_isFree_14 (by decide) ?_
      refine lv_goto (tgt := 19) fx.1 fx.2.1 dX5_isFree_15 (by decide) ?_
      cases gOk_some hok
      exact g_zret fx hw hr (by decide) dX5_isFree_19
    · refine lv_iconst (v := 0) fx.1 fx.2.1 dX5_isFree_18 (by decide) ?_
      cases gOk_some hok
      exact g_zret fx hw hr (by decide) dX5_isFree_19
  · refine lv_iconst (v := 0) fx.1 fx.2.1 dX5_isFree_18 (by decide) ?_
    cases gOk_some hok
    exact g_zret fx hw hr (by decide) dX5_isFree_19
theorem dX5_tarOnce_0 : decode cX5_tarOnce 0 = .ok (.aload_n 0, 1) := by decide +kernel
theorem dX5_tarOnce_1 : decode cX5_tarOnce 1 = .ok (.aload_n 0, 1) := by decide +kernel
theorem dX5_tarOnce_2 : decode cX5_tarOnce 2 = .ok (.getfield 24, 3) := by decide +kernel
theorem dX5_tarOnce_5 : decode cX5_tarOnce 5 = .ok (.iconst 1, 1) := by decide +kernel
theorem dX5_tarOnce_6 : decode cX5_tarOnce 6 = .ok (.iadd, 1) := by decide +kernel
theorem dX5_tarOnce_7 : decode cX5_tarOnce 7 = .ok (.bipush 9, 2) := by decide +kernel
theorem dX5_tarOnce_9 : decode cX5_tarOnce 9 = .ok (.invokestatic 43, 3) := by decide +kernel
theorem dX5_tarOnce_12 : decode cX5_tarOnce 12 = .ok (.putfield 24, 3) := by decide +kernel
theorem dX5_tarOnce_15 : decode cX5_tarOnce 15 = .ok (.aload_n 0, 1) := by decide +kernel
theorem dX5_tarOnce_16 : decode cX5_tarOnce 16 = .ok (.aload_n 0, 1) := by decide +kernel
theorem dX5_tarOnce_17 : decode cX5_tarOnce 17 = .ok (.getfield 27, 3) := by decide +kernel
theorem dX5_tarOnce_20 : decode cX5_tarOnce 20 = .ok (.iconst 5, 1) := by decide +kernel
theorem dX5_tarOnce_21 : decode cX5_tarOnce 21 = .ok (.isub, 1) := by decide +kernel
theorem dX5_tarOnce_22 : decode cX5_tarOnce 22 = .ok (.iconst 0, 1) := by decide +kernel
theorem dX5_tarOnce_23 : decode cX5_tarOnce 23 = .ok (.invokestatic 49, 3) := by decide +kernel
theorem dX5_tarOnce_26 : decode cX5_tarOnce 26 = .ok (.putfield 27, 3) := by decide +kernel
theorem dX5_tarOnce_29 : decode cX5_tarOnce 29 = .ok (.return_, 1) := by decide +kernel
theorem lm_RX5_43 : Cond.methodLink RX5 43 Lib.Math.min.name ∈ wA := wA_t (wt5 (List.mem_of_getElem? (i := 156) (by decide +kernel))) (by decide +kernel)
theorem lm_RX5_49 : Cond.methodLink RX5 49 Lib.Math.max.name ∈ wA := wA_t (wt5 (List.mem_of_getElem? (i := 157) (by decide +kernel))) (by decide +kernel)
def rm_X5_tarOnce : Room := { frames := 1, cells := 0, slots := 0, locals := 21 }
def f_X5_tarOnce (x0 : Nat) (G : gG) : Option (gG) :=
  gLet (gsi G 5 4 x0 (gmin ((gi G 5 4 x0) + (1 : Int32)) (9 : Int32))) fun G1 =>
  gLet (gsi G1 5 5 x0 (gmax ((gi G1 5 5 x0) - (5 : Int32)) (0 : Int32))) fun G2 =>
  some G2
set_option maxHeartbeats 4000000 in
set_option maxRecDepth 100000 in
theorem c_X5_tarOnce (l : Launch) (X : gX) (τ : gτ) (x0 : Nat) (G : gG) (h0 : gK τ x0 5) {G' : gG} (h : f_X5_tarOnce x0 G = some G') : gM l X τ yX5_tarOnce cX5_tarOnce 1 none rm_X5_tarOnce [.ref x0] G none G' := by
  refine g_body (by decide +kernel) (Nat.le_of_ble_eq_true rfl) ?_
  intro p e s m args below meth c ls fx hr hw hl
  have fx : gFx X p s m args meth c cX5_tarOnce 1 RX5 := fx
  have hl : lv_has ls 1 [(0, .ref x0)] := hl
  have hok : gOk (f_X5_tarOnce x0 G) (fun q => q = G') := ⟨_, h, rfl⟩
  unfold f_X5_tarOnce at hok
  show W p l e rm_X5_tarOnce s m args below meth c s.heap [] 0 0 (MQ below (gQ X τ none G') args s 0 0 (gFree X)) _
  refine lv_aload_n fx.1 fx.2.1 dX5_tarOnce_0 rfl (lv_at hl 0 rfl) ?_
  refine lv_aload_n fx.1 fx.2.1 dX5_tarOnce_1 rfl (lv_at hl 0 rfl) ?_
  refine g_geti fx hw h0 lf_RX5_24 rfl dX5_tarOnce_2 ?_
  refine lv_iconst (v := 1) fx.1 fx.2.1 dX5_tarOnce_5 (by decide) ?_
  refine lv_iadd fx.1 fx.2.1 dX5_tarOnce_6 ?_
  refine lv_bipush (v := 9) fx.1 fx.2.1 dX5_tarOnce_7 (by decide) ?_
  refine g_mmin fx hl.1 lm_RX5_43 lmst_min lm_init lmco_min ⟨Nat.le_of_ble_eq_true rfl, Nat.le_of_ble_eq_true rfl, Nat.le_of_ble_eq_true rfl, Nat.le_of_ble_eq_true rfl⟩ dX5_tarOnce_9 ?_
  refine g_puti fx hw h0 lp_RX5_24 rfl rfl dX5_tarOnce_12 hok (fun G1 H locs hw hok => ?_)
  refine lv_aload_n fx.1 fx.2.1 dX5_tarOnce_15 rfl (lv_at hl 0 rfl) ?_
  refine lv_aload_n fx.1 fx.2.1 dX5_tarOnce_16 rfl (lv_at hl 0 rfl) ?_
  refine g_geti fx hw h0 lf_RX5_27 rfl dX5_tarOnce_17 ?_
  refine lv_iconst (v := 5) fx.1 fx.2.1 dX5_tarOnce_20 (by decide) ?_
  refine lv_isub fx.1 fx.2.1 dX5_tarOnce_21 ?_
  refine lv_iconst (v := 0) fx.1 fx.2.1 dX5_tarOnce_22 (by decide) ?_
  refine g_mmax fx hl.1 lm_RX5_49 lmst_max lm_init lmco_max ⟨Nat.le_of_ble_eq_true rfl, Nat.le_of_ble_eq_true rfl, Nat.le_of_ble_eq_true rfl, Nat.le_of_ble_eq_true rfl⟩ dX5_tarOnce_23 ?_
  refine g_puti fx hw h0 lp_RX5_27 rfl rfl dX5_tarOnce_26 hok (fun G2 H locs hw hok => ?_)
  cases gOk_some hok
  exact g_vret fx hw hr dX5_tarOnce_29
theorem dX5_canDouble_0 : decode cX5_canDouble 0 = .ok (.aload_n 0, 1) := by decide +kernel
theorem dX5_canDouble_1 : decode cX5_canDouble 1 = .ok (.getfield 40, 3) := by decide +kernel
theorem dX5_canDouble_4 : decode cX5_canDouble 4 = .ok (.ifCond .ne 24, 3) := by decide +kernel
theorem dX5_canDouble_7 : decode cX5_canDouble 7 = .ok (.aload_n 0, 1) := by decide +kernel
theorem dX5_canDouble_8 : decode cX5_canDouble 8 = .ok (.getfield 30, 3) := by decide +kernel
theorem dX5_canDouble_11 : decode cX5_canDouble 11 = .ok (.bipush 8, 2) := by decide +kernel
theorem dX5_canDouble_13 : decode cX5_canDouble 13 = .ok (.if_icmp .ge 15, 3) := by decide +kernel
theorem dX5_canDouble_16 : decode cX5_canDouble 16 = .ok (.aload_n 0, 1) := by decide +kernel
theorem dX5_canDouble_17 : decode cX5_canDouble 17 = .ok (.getfield 21, 3) := by decide +kernel
theorem dX5_canDouble_20 : decode cX5_canDouble 20 = .ok (.iconst 2, 1) := by decide +kernel
theorem dX5_canDouble_21 : decode cX5_canDouble 21 = .ok (.if_icmp .lt 7, 3) := by decide +kernel
theorem dX5_canDouble_24 : decode cX5_canDouble 24 = .ok (.iconst 1, 1) := by decide +kernel
theorem dX5_canDouble_25 : decode cX5_canDouble 25 = .ok (.goto 4, 3) := by decide +kernel
theorem dX5_canDouble_28 : decode cX5_canDouble 28 = .ok (.iconst 0, 1) := by decide +kernel
theorem dX5_canDouble_29 : decode cX5_canDouble 29 = .ok (.ireturn, 1) := by decide +kernel
def rm_X5_canDouble : Room := { frames := 0, cells := 0, slots := 0, locals := 0 }
def f_X5_canDouble (x0 : Nat) (G : gG) : Option (Int32) :=
  if (gi G 5 9 x0) = 0 then (if (8 : Int32) ≤ (gi G 5 6 x0) then (some (0))
  else (if (gi G 5 3 x0) < (2 : Int32) then (some (0))
  else (some (1))))
  else (some (0))
set_option maxHeartbeats 4000000 in
set_option maxRecDepth 100000 in
theorem c_X5_canDouble (l : Launch) (X : gX) (τ : gτ) (x0 : Nat) (G : gG) (h0 : gK τ x0 5) {r : Int32}  (h : f_X5_canDouble x0 G = some r) : gM l X τ yX5_canDouble cX5_canDouble 1 (some .boolean) rm_X5_canDouble [.ref x0] G (some (.int r)) G := by
  refine g_body (by decide +kernel) (Nat.le_of_ble_eq_true rfl) ?_
  intro p e s m args below meth c ls fx hr hw hl
  have fx : gFx X p s m args meth c cX5_canDouble 1 RX5 := fx
  have hl : lv_has ls 1 [(0, .ref x0)] := hl
  have hok : gOk (f_X5_canDouble x0 G) (fun q => q = r) := ⟨_, h, rfl⟩
  unfold f_X5_canDouble at hok
  show W p l e rm_X5_canDouble s m args below meth c s.heap [] 0 0 (MQ below (gQ X τ (some (.int r)) G) args s 0 0 (gFree X)) _
  refine lv_aload_n fx.1 fx.2.1 dX5_canDouble_0 rfl (lv_at hl 0 rfl) ?_
  refine g_geti fx hw h0 lf_RX5_40 rfl dX5_canDouble_1 ?_
  refine g_if_ne (tgt := 28) fx dX5_canDouble_4 (by decide) hok (fun hok => ?_) (fun hok => ?_)
  · refine lv_aload_n fx.1 fx.2.1 dX5_canDouble_7 rfl (lv_at hl 0 rfl) ?_
    refine g_geti fx hw h0 lf_RX5_30 rfl dX5_canDouble_8 ?_
    refine lv_bipush (v := 8) fx.1 fx.2.1 dX5_canDouble_11 (by decide) ?_
    refine g_icmp_ge (tgt := 28) fx dX5_canDouble_13 (by decide) hok (fun hok => ?_) (fun hok => ?_)
    · refine lv_iconst (v := 0) fx.1 fx.2.1 dX5_canDouble_28 (by decide) ?_
      cases gOk_some hok
      exact g_zret fx hw hr (by decide) dX5_canDouble_29
    · refine lv_aload_n fx.1 fx.2.1 dX5_canDouble_16 rfl (lv_at hl 0 rfl) ?_
      refine g_geti fx hw h0 lf_RX5_21 rfl dX5_canDouble_17 ?_
      refine lv_iconst (v := 2) fx.1 fx.2.1 dX5_canDouble_20 (by decide) ?_
      refine g_icmp_lt (tgt := 28) fx dX5_canDouble_21 (by decide) hok (fun hok => ?_) (fun hok => ?_)
      · refine lv_iconst (v := 0) fx.1 fx.2.1 dX5_canDouble_28 (by decide) ?_
        cases gOk_some hok
        exact g_zret fx hw hr (by decide) dX5_canDouble_29
      · refine lv_iconst (v := 1) fx.1 fx.2.1 dX5_canDouble_24 (by decide) ?_
        refine lv_goto (tgt := 29) fx.1 fx.2.1 dX5_canDouble_25 (by decide) ?_
        cases gOk_some hok
        exact g_zret fx hw hr (by decide) dX5_canDouble_29
  · refine lv_iconst (v := 0) fx.1 fx.2.1 dX5_canDouble_28 (by decide) ?_
    cases gOk_some hok
    exact g_zret fx hw hr (by decide) dX5_canDouble_29
theorem dX5_makeDouble_0 : decode cX5_makeDouble 0 = .ok (.aload_n 0, 1) := by decide +kernel
theorem dX5_makeDouble_1 : decode cX5_makeDouble 1 = .ok (.aload_n 0, 1) := by decide +kernel
theorem dX5_makeDouble_2 : decode cX5_makeDouble 2 = .ok (.getfield 30, 3) := by decide +kernel
theorem dX5_makeDouble_5 : decode cX5_makeDouble 5 = .ok (.iconst 2, 1) := by decide +kernel
theorem dX5_makeDouble_6 : decode cX5_makeDouble 6 = .ok (.imul, 1) := by decide +kernel
theorem dX5_makeDouble_7 : decode cX5_makeDouble 7 = .ok (.putfield 30, 3) := by decide +kernel
theorem dX5_makeDouble_10 : decode cX5_makeDouble 10 = .ok (.aload_n 0, 1) := by decide +kernel
theorem dX5_makeDouble_11 : decode cX5_makeDouble 11 = .ok (.aload_n 0, 1) := by decide +kernel
theorem dX5_makeDouble_12 : decode cX5_makeDouble 12 = .ok (.getfield 21, 3) := by decide +kernel
theorem dX5_makeDouble_15 : decode cX5_makeDouble 15 = .ok (.iconst 2, 1) := by decide +kernel
theorem dX5_makeDouble_16 : decode cX5_makeDouble 16 = .ok (.idiv, 1) := by decide +kernel
theorem dX5_makeDouble_17 : decode cX5_makeDouble 17 = .ok (.putfield 21, 3) := by decide +kernel
theorem dX5_makeDouble_20 : decode cX5_makeDouble 20 = .ok (.return_, 1) := by decide +kernel
def rm_X5_makeDouble : Room := { frames := 0, cells := 0, slots := 0, locals := 0 }
def f_X5_makeDouble (x0 : Nat) (G : gG) : Option (gG) :=
  gLet (gsi G 5 6 x0 ((gi G 5 6 x0) * (2 : Int32))) fun G1 =>
  gLet (gsi G1 5 3 x0 ((gi G1 5 3 x0) / (2 : Int32))) fun G2 =>
  some G2
set_option maxHeartbeats 4000000 in
set_option maxRecDepth 100000 in
theorem c_X5_makeDouble (l : Launch) (X : gX) (τ : gτ) (x0 : Nat) (G : gG) (h0 : gK τ x0 5) {G' : gG} (h : f_X5_makeDouble x0 G = some G') : gM l X τ yX5_makeDouble cX5_makeDouble 1 none rm_X5_makeDouble [.ref x0] G none G' := by
  refine g_body (by decide +kernel) (Nat.le_of_ble_eq_true rfl) ?_
  intro p e s m args below meth c ls fx hr hw hl
  have fx : gFx X p s m args meth c cX5_makeDouble 1 RX5 := fx
  have hl : lv_has ls 1 [(0, .ref x0)] := hl
  have hok : gOk (f_X5_makeDouble x0 G) (fun q => q = G') := ⟨_, h, rfl⟩
  unfold f_X5_makeDouble at hok
  show W p l e rm_X5_makeDouble s m args below meth c s.heap [] 0 0 (MQ below (gQ X τ none G') args s 0 0 (gFree X)) _
  refine lv_aload_n fx.1 fx.2.1 dX5_makeDouble_0 rfl (lv_at hl 0 rfl) ?_
  refine lv_aload_n fx.1 fx.2.1 dX5_makeDouble_1 rfl (lv_at hl 0 rfl) ?_
  refine g_geti fx hw h0 lf_RX5_30 rfl dX5_makeDouble_2 ?_
  refine lv_iconst (v := 2) fx.1 fx.2.1 dX5_makeDouble_5 (by decide) ?_
  refine lv_imul fx.1 fx.2.1 dX5_makeDouble_6 ?_
  refine g_puti fx hw h0 lp_RX5_30 rfl rfl dX5_makeDouble_7 hok (fun G1 H locs hw hok => ?_)
  refine lv_aload_n fx.1 fx.2.1 dX5_makeDouble_10 rfl (lv_at hl 0 rfl) ?_
  refine lv_aload_n fx.1 fx.2.1 dX5_makeDouble_11 rfl (lv_at hl 0 rfl) ?_
  refine g_geti fx hw h0 lf_RX5_21 rfl dX5_makeDouble_12 ?_
  refine lv_iconst (v := 2) fx.1 fx.2.1 dX5_makeDouble_15 (by decide) ?_
  refine lv_idiv fx.1 fx.2.1 dX5_makeDouble_16 (by decide) ?_
  refine g_puti fx hw h0 lp_RX5_21 rfl rfl dX5_makeDouble_17 hok (fun G2 H locs hw hok => ?_)
  cases gOk_some hok
  exact g_vret fx hw hr dX5_makeDouble_20
theorem dX6_addYarn_0 : decode cX6_addYarn 0 = .ok (.aload_n 0, 1) := by decide +kernel
theorem dX6_addYarn_1 : decode cX6_addYarn 1 = .ok (.getfield 43, 3) := by decide +kernel
theorem dX6_addYarn_4 : decode cX6_addYarn 4 = .ok (.bipush 10, 2) := by decide +kernel
theorem dX6_addYarn_6 : decode cX6_addYarn 6 = .ok (.if_icmp .lt 4, 3) := by decide +kernel
theorem dX6_addYarn_9 : decode cX6_addYarn 9 = .ok (.return_, 1) := by decide +kernel
theorem dX6_addYarn_10 : decode cX6_addYarn 10 = .ok (.aload_n 0, 1) := by decide +kernel
theorem dX6_addYarn_11 : decode cX6_addYarn 11 = .ok (.getfield 11, 3) := by decide +kernel
theorem dX6_addYarn_14 : decode cX6_addYarn 14 = .ok (.aload_n 0, 1) := by decide +kernel
theorem dX6_addYarn_15 : decode cX6_addYarn 15 = .ok (.getfield 43, 3) := by decide +kernel
theorem dX6_addYarn_18 : decode cX6_addYarn 18 = .ok (.aaload, 1) := by decide +kernel
theorem dX6_addYarn_19 : decode cX6_addYarn 19 = .ok (.astore 5, 2) := by decide +kernel
theorem dX6_addYarn_21 : decode cX6_addYarn 21 = .ok (.aload 5, 2) := by decide +kernel
theorem dX6_addYarn_23 : decode cX6_addYarn 23 = .ok (.iload_n 1, 1) := by decide +kernel
theorem dX6_addYarn_24 : decode cX6_addYarn 24 = .ok (.putfield 86, 3) := by decide +kernel
theorem dX6_addYarn_27 : decode cX6_addYarn 27 = .ok (.aload 5, 2) := by decide +kernel
theorem dX6_addYarn_29 : decode cX6_addYarn 29 = .ok (.iload_n 2, 1) := by decide +kernel
theorem dX6_addYarn_30 : decode cX6_addYarn 30 = .ok (.putfield 89, 3) := by decide +kernel
theorem dX6_addYarn_33 : decode cX6_addYarn 33 = .ok (.aload 5, 2) := by decide +kernel
theorem dX6_addYarn_35 : decode cX6_addYarn 35 = .ok (.iload_n 3, 1) := by decide +kernel
theorem dX6_addYarn_36 : decode cX6_addYarn 36 = .ok (.putfield 92, 3) := by decide +kernel
theorem dX6_addYarn_39 : decode cX6_addYarn 39 = .ok (.aload 5, 2) := by decide +kernel
theorem dX6_addYarn_41 : decode cX6_addYarn 41 = .ok (.iload 4, 2) := by decide +kernel
theorem dX6_addYarn_43 : decode cX6_addYarn 43 = .ok (.putfield 95, 3) := by decide +kernel
theorem dX6_addYarn_46 : decode cX6_addYarn 46 = .ok (.aload_n 0, 1) := by decide +kernel
theorem dX6_addYarn_47 : decode cX6_addYarn 47 = .ok (.dup, 1) := by decide +kernel
theorem dX6_addYarn_48 : decode cX6_addYarn 48 = .ok (.getfield 43, 3) := by decide +kernel
theorem dX6_addYarn_51 : decode cX6_addYarn 51 = .ok (.iconst 1, 1) := by decide +kernel
theorem dX6_addYarn_52 : decode cX6_addYarn 52 = .ok (.iadd, 1) := by decide +kernel
theorem dX6_addYarn_53 : decode cX6_addYarn 53 = .ok (.putfield 43, 3) := by decide +kernel
theorem dX6_addYarn_56 : decode cX6_addYarn 56 = .ok (.return_, 1) := by decide +kernel
theorem lp_RX6_86 : gLp RX6 86 9 0 := ⟨(RX9, TX9, 4), rfl, by decide, wA_t (wt1 (List.mem_of_getElem? (i := 134) (by decide +kernel))) (by decide +kernel), rfl, rfl⟩
theorem lp_RX6_89 : gLp RX6 89 9 1 := ⟨(RX9, TX9, 4), rfl, by decide, wA_t (wt1 (List.mem_of_getElem? (i := 138) (by decide +kernel))) (by decide +kernel), rfl, rfl⟩
theorem lp_RX6_92 : gLp RX6 92 9 2 := ⟨(RX9, TX9, 4), rfl, by decide, wA_t (wt1 (List.mem_of_getElem? (i := 141) (by decide +kernel))) (by decide +kernel), rfl, rfl⟩
theorem lp_RX6_95 : gLp RX6 95 9 3 := ⟨(RX9, TX9, 4), rfl, by decide, wA_t (wt1 (List.mem_of_getElem? (i := 145) (by decide +kernel))) (by decide +kernel), rfl, rfl⟩
def rm_X6_addYarn : Room := { frames := 0, cells := 0, slots := 0, locals := 0 }
def f_X6_addYarn (τ : gτ) (x0 : Nat) (x1 : Int32) (x2 : Int32) (x3 : Int32) (x4 : Int32) (G : gG) : Option (gG) :=
  if (gi G 6 4 x0) < (10 : Int32) then ((gr G 6 0 x0).bind fun a1 =>
  gchk (gIn (gi G 6 4 x0) (gn τ a1)) <| (gq G a1 (Int32.toNatClampNeg (gi G 6 4 x0))).bind fun a2 =>
  gLet (gsi G 9 0 a2 x1) fun G3 =>
  gLet (gsi G3 9 1 a2 x2) fun G4 =>
  gLet (gsi G4 9 2 a2 x3) fun G5 =>
  gLet (gsi G5 9 3 a2 x4) fun G6 =>
  gLet (gsi G6 6 4 x0 ((gi G6 6 4 x0) + (1 : Int32))) fun G7 =>
  some G7)
  else (some G)
set_option maxHeartbeats 4000000 in
set_option maxRecDepth 100000 in
theorem c_X6_addYarn (l : Launch) (X : gX) (τ : gτ) (x0 : Nat) (x1 : Int32) (x2 : Int32) (x3 : Int32) (x4 : Int32) (G : gG) (h0 : gK τ x0 6) {G' : gG} (h : f_X6_addYarn τ x0 x1 x2 x3 x4 G = some G') : gM l X τ yX6_addYarn cX6_addYarn 6 none rm_X6_addYarn [.ref x0, .int x1, .int x2, .int x3, .int x4] G none G' := by
  refine g_body (by decide +kernel) (Nat.le_of_ble_eq_true rfl) ?_
  intro p e s m args below meth c ls fx hr hw hl
  have fx : gFx X p s m args meth c cX6_addYarn 6 RX6 := fx
  have hl : lv_has ls 6 [(0, .ref x0), (1, .int x1), (2, .int x2), (3, .int x3), (4, .int x4)] := hl
  have hok : gOk (f_X6_addYarn τ x0 x1 x2 x3 x4 G) (fun q => q = G') := ⟨_, h, rfl⟩
  unfold f_X6_addYarn at hok
  show W p l e rm_X6_addYarn s m args below meth c s.heap [] 0 0 (MQ below (gQ X τ none G') args s 0 0 (gFree X)) _
  refine lv_aload_n fx.1 fx.2.1 dX6_addYarn_0 rfl (lv_at hl 0 rfl) ?_
  refine g_geti fx hw h0 lf_RX6_43 rfl dX6_addYarn_1 ?_
  refine lv_bipush (v := 10) fx.1 fx.2.1 dX6_addYarn_4 (by decide) ?_
  refine g_icmp_lt (tgt := 10) fx dX6_addYarn_6 (by decide) hok (fun hok => ?_) (fun hok => ?_)
  · refine lv_aload_n fx.1 fx.2.1 dX6_addYarn_10 rfl (lv_at hl 0 rfl) ?_
    refine g_getr fx hw h0 lf_RX6_11 rfl dX6_addYarn_11 hok (fun a1 h_a1 hok => ?_)
    refine lv_aload_n fx.1 fx.2.1 dX6_addYarn_14 rfl (lv_at hl 0 rfl) ?_
    refine g_geti fx hw h0 lf_RX6_43 rfl dX6_addYarn_15 ?_
    refine g_aald fx hw 17 5 h_a1 (by decide) (by decide) rfl (κ' := 9) rfl dX6_addYarn_18 hok (fun a2 h_a2 hok => ?_)
    refine lv_astore (lv' := [(5, .ref a2), (0, .ref x0), (1, .int x1), (2, .int x2), (3, .int x3), (4, .int x4)]) fx.1 fx.2.1 dX6_addYarn_19 hl (by decide) rfl (fun ls hl => ?_)
    refine lv_aload fx.1 fx.2.1 dX6_addYarn_21 (lv_at hl 0 rfl) ?_
    refine lv_iload_n fx.1 fx.2.1 dX6_addYarn_23 rfl (lv_at hl 2 rfl) ?_
    refine g_puti fx hw h_a2 lp_RX6_86 rfl rfl dX6_addYarn_24 hok (fun G3 H locs hw hok => ?_)
    refine lv_aload fx.1 fx.2.1 dX6_addYarn_27 (lv_at hl 0 rfl) ?_
    refine lv_iload_n fx.1 fx.2.1 dX6_addYarn_29 rfl (lv_at hl 3 rfl) ?_
    refine g_puti fx hw h_a2 lp_RX6_89 rfl rfl dX6_addYarn_30 hok (fun G4 H locs hw hok => ?_)
    refine lv_aload fx.1 fx.2.1 dX6_addYarn_33 (lv_at hl 0 rfl) ?_
    refine lv_iload_n fx.1 fx.2.1 dX6_addYarn_35 rfl (lv_at hl 4 rfl) ?_
    refine g_puti fx hw h_a2 lp_RX6_92 rfl rfl dX6_addYarn_36 hok (fun G5 H locs hw hok => ?_)
    refine lv_aload fx.1 fx.2.1 dX6_addYarn_39 (lv_at hl 0 rfl) ?_
    refine lv_iload fx.1 fx.2.1 dX6_addYarn_41 (lv_at hl 5 rfl) ?_
    refine g_puti fx hw h_a2 lp_RX6_95 rfl rfl dX6_addYarn_43 hok (fun G6 H locs hw hok => ?_)
    refine lv_aload_n fx.1 fx.2.1 dX6_addYarn_46 rfl (lv_at hl 1 rfl) ?_
    refine lv_dup fx.1 fx.2.1 dX6_addYarn_47 rfl ?_
    refine g_geti fx hw h0 lf_RX6_43 rfl dX6_addYarn_48 ?_
    refine lv_iconst (v := 1) fx.1 fx.2.1 dX6_addYarn_51 (by decide) ?_
    refine lv_iadd fx.1 fx.2.1 dX6_addYarn_52 ?_
    refine g_puti fx hw h0 lp_RX6_43 rfl rfl dX6_addYarn_53 hok (fun G7 H locs hw hok => ?_)
    cases gOk_some hok
    exact g_vret fx hw hr dX6_addYarn_56
  · cases gOk_some hok
    exact g_vret fx hw hr dX6_addYarn_9
theorem dX6_yarnAt_0 : decode cX6_yarnAt 0 = .ok (.aload_n 0, 1) := by decide +kernel
theorem dX6_yarnAt_1 : decode cX6_yarnAt 1 = .ok (.getfield 11, 3) := by decide +kernel
theorem dX6_yarnAt_4 : decode cX6_yarnAt 4 = .ok (.iload_n 1, 1) := by decide +kernel
theorem dX6_yarnAt_5 : decode cX6_yarnAt 5 = .ok (.ifCond .lt 13, 3) := by decide +kernel
theorem dX6_yarnAt_8 : decode cX6_yarnAt 8 = .ok (.iload_n 1, 1) := by decide +kernel
theorem dX6_yarnAt_9 : decode cX6_yarnAt 9 = .ok (.bipush 10, 2) := by decide +kernel
theorem dX6_yarnAt_11 : decode cX6_yarnAt 11 = .ok (.if_icmp .ge 7, 3) := by decide +kernel
theorem dX6_yarnAt_14 : decode cX6_yarnAt 14 = .ok (.iload_n 1, 1) := by decide +kernel
theorem dX6_yarnAt_15 : decode cX6_yarnAt 15 = .ok (.goto 4, 3) := by decide +kernel
theorem dX6_yarnAt_18 : decode cX6_yarnAt 18 = .ok (.iconst 0, 1) := by decide +kernel
theorem dX6_yarnAt_19 : decode cX6_yarnAt 19 = .ok (.aaload, 1) := by decide +kernel
theorem dX6_yarnAt_20 : decode cX6_yarnAt 20 = .ok (.areturn, 1) := by decide +kernel
def rm_X6_yarnAt : Room := { frames := 0, cells := 0, slots := 0, locals := 0 }
def f_X6_yarnAt (τ : gτ) (x0 : Nat) (x1 : Int32) (G : gG) : Option (Nat) :=
  (gr G 6 0 x0).bind fun a1 =>
  if x1 < 0 then (gchk (gIn (0 : Int32) (gn τ a1)) <| (gq G a1 (Int32.toNatClampNeg (0 : Int32))).bind fun a2 =>
  some (a2))
  else (if (10 : Int32) ≤ x1 then (gchk (gIn (0 : Int32) (gn τ a1)) <| (gq G a1 (Int32.toNatClampNeg (0 : Int32))).bind fun a3 =>
  some (a3))
  else (gchk (gIn x1 (gn τ a1)) <| (gq G a1 (Int32.toNatClampNeg x1)).bind fun a4 =>
  some (a4)))
set_option maxHeartbeats 4000000 in
set_option maxRecDepth 100000 in
theorem c_X6_yarnAt (l : Launch) (X : gX) (τ : gτ) (x0 : Nat) (x1 : Int32) (G : gG) (h0 : gK τ x0 6) {r : Nat}  (h : f_X6_yarnAt τ x0 x1 G = some r) : gM l X τ yX6_yarnAt cX6_yarnAt 2 (some (.object "YearRope$Yarn")) rm_X6_yarnAt [.ref x0, .int x1] G (some (.ref r)) G := by
  refine g_body (by decide +kernel) (Nat.le_of_ble_eq_true rfl) ?_
  intro p e s m args below meth c ls fx hr hw hl
  have fx : gFx X p s m args meth c cX6_yarnAt 2 RX6 := fx
  have hl : lv_has ls 2 [(0, .ref x0), (1, .int x1)] := hl
  have hok : gOk (f_X6_yarnAt τ x0 x1 G) (fun q => q = r) := ⟨_, h, rfl⟩
  unfold f_X6_yarnAt at hok
  show W p l e rm_X6_yarnAt s m args below meth c s.heap [] 0 0 (MQ below (gQ X τ (some (.ref r)) G) args s 0 0 (gFree X)) _
  refine lv_aload_n fx.1 fx.2.1 dX6_yarnAt_0 rfl (lv_at hl 0 rfl) ?_
  refine g_getr fx hw h0 lf_RX6_11 rfl dX6_yarnAt_1 hok (fun a1 h_a1 hok => ?_)
  refine lv_iload_n fx.1 fx.2.1 dX6_yarnAt_4 rfl (lv_at hl 1 rfl) ?_
  refine g_if_lt (tgt := 18) fx dX6_yarnAt_5 (by decide) hok (fun hok => ?_) (fun hok => ?_)
  · refine lv_iconst (v := 0) fx.1 fx.2.1 dX6_yarnAt_18 (by decide) ?_
    refine g_aald fx hw 17 5 h_a1 (by decide) (by decide) rfl (κ' := 9) rfl dX6_yarnAt_19 hok (fun a2 h_a2 hok => ?_)
    cases gOk_some hok
    exact g_aret fx hw hr dX6_yarnAt_20
  · refine lv_iload_n fx.1 fx.2.1 dX6_yarnAt_8 rfl (lv_at hl 1 rfl) ?_
    refine lv_bipush (v := 10) fx.1 fx.2.1 dX6_yarnAt_9 (by decide) ?_
    refine g_icmp_ge (tgt := 18) fx dX6_yarnAt_11 (by decide) hok (fun hok => ?_) (fun hok => ?_)
    · refine lv_iconst (v := 0) fx.1 fx.2.1 dX6_yarnAt_18 (by decide) ?_
      refine g_aald fx hw 17 5 h_a1 (by decide) (by decide) rfl (κ' := 9) rfl dX6_yarnAt_19 hok (fun a3 h_a3 hok => ?_)
      cases gOk_some hok
      exact g_aret fx hw hr dX6_yarnAt_20
    · refine lv_iload_n fx.1 fx.2.1 dX6_yarnAt_14 rfl (lv_at hl 1 rfl) ?_
      refine lv_goto (tgt := 19) fx.1 fx.2.1 dX6_yarnAt_15 (by decide) ?_
      refine g_aald fx hw 17 5 h_a1 (by decide) (by decide) rfl (κ' := 9) rfl dX6_yarnAt_19 hok (fun a4 h_a4 hok => ?_)
      cases gOk_some hok
      exact g_aret fx hw hr dX6_yarnAt_20
theorem dX6_shortest_0 : decode cX6_shortest 0 = .ok (.aload_n 0, 1) := by decide +kernel
theorem dX6_shortest_1 : decode cX6_shortest 1 = .ok (.iload_n 1, 1) := by decide +kernel
theorem dX6_shortest_2 : decode cX6_shortest 2 = .ok (.invokevirtual 98, 3) := by decide +kernel
theorem dX6_shortest_5 : decode cX6_shortest 5 = .ok (.getfield 89, 3) := by decide +kernel
theorem dX6_shortest_8 : decode cX6_shortest 8 = .ok (.aload_n 0, 1) := by decide +kernel
theorem dX6_shortest_9 : decode cX6_shortest 9 = .ok (.iload_n 2, 1) := by decide +kernel
theorem dX6_shortest_10 : decode cX6_shortest 10 = .ok (.invokevirtual 98, 3) := by decide +kernel
theorem dX6_shortest_13 : decode cX6_shortest 13 = .ok (.getfield 89, 3) := by decide +kernel
theorem dX6_shortest_16 : decode cX6_shortest 16 = .ok (.invokestatic 102, 3) := by decide +kernel
theorem dX6_shortest_19 : decode cX6_shortest 19 = .ok (.istore 4, 2) := by decide +kernel
theorem dX6_shortest_21 : decode cX6_shortest 21 = .ok (.iload 4, 2) := by decide +kernel
theorem dX6_shortest_23 : decode cX6_shortest 23 = .ok (.aload_n 0, 1) := by decide +kernel
theorem dX6_shortest_24 : decode cX6_shortest 24 = .ok (.iload_n 3, 1) := by decide +kernel
theorem dX6_shortest_25 : decode cX6_shortest 25 = .ok (.invokevirtual 98, 3) := by decide +kernel
theorem dX6_shortest_28 : decode cX6_shortest 28 = .ok (.getfield 89, 3) := by decide +kernel
theorem dX6_shortest_31 : decode cX6_shortest 31 = .ok (.invokestatic 102, 3) := by decide +kernel
theorem dX6_shortest_34 : decode cX6_shortest 34 = .ok (.ireturn, 1) := by decide +kernel
theorem lv_RX6_98 : gLv RX6 98 RX6 yX6_yarnAt cX6_yarnAt 2 (some (.object "YearRope$Yarn")) 1 := gLv_of (wA_t (wt2 (List.mem_of_getElem? (i := 204) (by decide +kernel))) (by decide +kernel)) (wA_t (wt2 (List.mem_of_getElem? (i := 205) (by decide +kernel))) (by decide +kernel)) (wA_t (wt2 (List.mem_of_getElem? (i := 206) (by decide +kernel))) (by decide +kernel)) (wA_t (wt1 (List.mem_of_getElem? (i := 6) (by decide +kernel))) (by decide +kernel)) (wA_t (wt2 (List.mem_of_getElem? (i := 207) (by decide +kernel))) (by decide +kernel)) ⟨rfl, by decide +kernel, by decide +kernel, by decide +kernel⟩
theorem lf_RX6_89 : gLf RX6 89 9 1 := ⟨(RX9, TX9, 4), rfl, by decide, wA_t (wt1 (List.mem_of_getElem? (i := 138) (by decide +kernel))) (by decide +kernel), rfl⟩
theorem lm_RX6_102 : Cond.methodLink RX6 102 Lib.Math.min.name ∈ wA := wA_t (wt3 (List.mem_of_getElem? (i := 25) (by decide +kernel))) (by decide +kernel)
def rm_X6_shortest : Room := { frames := 1, cells := 0, slots := 0, locals := 21 }
def f_X6_shortest (τ : gτ) (x0 : Nat) (x1 : Int32) (x2 : Int32) (x3 : Int32) (G : gG) : Option (Int32) :=
  (f_X6_yarnAt τ x0 x1 G).bind fun a1 =>
  gchk (gkd τ a1 9) <|
  (f_X6_yarnAt τ x0 x2 G).bind fun a2 =>
  gchk (gkd τ a2 9) <|
  gLet (gmin (gi G 9 1 a1) (gi G 9 1 a2)) fun v3 =>
  (f_X6_yarnAt τ x0 x3 G).bind fun a4 =>
  gchk (gkd τ a4 9) <|
  some (gmin v3 (gi G 9 1 a4))
set_option maxHeartbeats 4000000 in
set_option maxRecDepth 100000 in
theorem c_X6_shortest (l : Launch) (X : gX) (τ : gτ) (x0 : Nat) (x1 : Int32) (x2 : Int32) (x3 : Int32) (G : gG) (h0 : gK τ x0 6) {r : Int32}  (h : f_X6_shortest τ x0 x1 x2 x3 G = some r) : gM l X τ yX6_shortest cX6_shortest 5 (some .int) rm_X6_shortest [.ref x0, .int x1, .int x2, .int x3] G (some (.int r)) G := by
  refine g_body (by decide +kernel) (Nat.le_of_ble_eq_true rfl) ?_
  intro p e s m args below meth c ls fx hr hw hl
  have fx : gFx X p s m args meth c cX6_shortest 5 RX6 := fx
  have hl : lv_has ls 5 [(0, .ref x0), (1, .int x1), (2, .int x2), (3, .int x3)] := hl
  have hok : gOk (f_X6_shortest τ x0 x1 x2 x3 G) (fun q => q = r) := ⟨_, h, rfl⟩
  unfold f_X6_shortest at hok
  show W p l e rm_X6_shortest s m args below meth c s.heap [] 0 0 (MQ below (gQ X τ (some (.int r)) G) args s 0 0 (gFree X)) _
  refine lv_aload_n fx.1 fx.2.1 dX6_shortest_0 rfl (lv_at hl 0 rfl) ?_
  refine lv_iload_n fx.1 fx.2.1 dX6_shortest_1 rfl (lv_at hl 1 rfl) ?_
  obtain ⟨a1, hf, hok⟩ := gOk_bind hok
  refine g_callV0 (κ := 6) fx hw (c_X6_yarnAt l X τ x0 x1 G h0 hf) lv_RX6_98 ⟨rfl, rfl⟩ rfl rfl h0 rfl hl.1 rfl ⟨Nat.le_of_ble_eq_true rfl, Nat.le_of_ble_eq_true rfl⟩ (Nat.le_of_ble_eq_true rfl) ⟨Nat.le_of_ble_eq_true rfl, Nat.le_of_ble_eq_true rfl⟩ dX6_shortest_2 (fun H locs hw => ?_)
  obtain ⟨h_a1, hok⟩ := gOk_chk hok
  have h_a1 : gK τ a1 9 := gkd_K h_a1
  refine g_geti fx hw h_a1 lf_RX6_89 rfl dX6_shortest_5 ?_
  refine lv_aload_n fx.1 fx.2.1 dX6_shortest_8 rfl (lv_at hl 0 rfl) ?_
  refine lv_iload_n fx.1 fx.2.1 dX6_shortest_9 rfl (lv_at hl 2 rfl) ?_
  obtain ⟨a2, hf, hok⟩ := gOk_bind hok
  refine g_callV0 (κ := 6) fx hw (c_X6_yarnAt l X τ x0 x2 G h0 hf) lv_RX6_98 ⟨rfl, rfl⟩ rfl rfl h0 rfl hl.1 rfl ⟨Nat.le_of_ble_eq_true rfl, Nat.le_of_ble_eq_true rfl⟩ (Nat.le_of_ble_eq_true rfl) ⟨Nat.le_of_ble_eq_true rfl, Nat.le_of_ble_eq_true rfl⟩ dX6_shortest_10 (fun H locs hw => ?_)
  obtain ⟨h_a2, hok⟩ := gOk_chk hok
  have h_a2 : gK τ a2 9 := gkd_K h_a2
  refine g_geti fx hw h_a2 lf_RX6_89 rfl dX6_shortest_13 ?_
  refine g_mmin fx hl.1 lm_RX6_102 lmst_min lm_init lmco_min ⟨Nat.le_of_ble_eq_true rfl, Nat.le_of_ble_eq_true rfl, Nat.le_of_ble_eq_true rfl, Nat.le_of_ble_eq_true rfl⟩ dX6_shortest_16 ?_
  refine g_leti hok (fun v3 hok => ?_)
  refine lv_istore (lv' := [(4, .int v3), (0, .ref x0), (1, .int x1), (2, .int x2), (3, .int x3)]) fx.1 fx.2.1 dX6_shortest_19 hl (by decide) rfl (fun ls hl => ?_)
  refine lv_iload fx.1 fx.2.1 dX6_shortest_21 (lv_at hl 0 rfl) ?_
  refine lv_aload_n fx.1 fx.2.1 dX6_shortest_23 rfl (lv_at hl 1 rfl) ?_
  refine lv_iload_n fx.1 fx.2.1 dX6_shortest_24 rfl (lv_at hl 4 rfl) ?_
  obtain ⟨a4, hf, hok⟩ := gOk_bind hok
  refine g_callV0 (κ := 6) fx hw (c_X6_yarnAt l X τ x0 x3 G h0 hf) lv_RX6_98 ⟨rfl, rfl⟩ rfl rfl h0 rfl hl.1 rfl ⟨Nat.le_of_ble_eq_true rfl, Nat.le_of_ble_eq_true rfl⟩ (Nat.le_of_ble_eq_true rfl) ⟨Nat.le_of_ble_eq_true rfl, Nat.le_of_ble_eq_true rfl⟩ dX6_shortest_25 (fun H locs hw => ?_)
  obtain ⟨h_a4, hok⟩ := gOk_chk hok
  have h_a4 : gK τ a4 9 := gkd_K h_a4
  refine g_geti fx hw h_a4 lf_RX6_89 rfl dX6_shortest_28 ?_
  refine g_mmin fx hl.1 lm_RX6_102 lmst_min lm_init lmco_min ⟨Nat.le_of_ble_eq_true rfl, Nat.le_of_ble_eq_true rfl, Nat.le_of_ble_eq_true rfl, Nat.le_of_ble_eq_true rfl⟩ dX6_shortest_31 ?_
  cases gOk_some hok
  exact g_iret fx hw hr dX6_shortest_34
theorem dX6_strengthOf_0 : decode cX6_strengthOf 0 = .ok (.aload_n 0, 1) := by decide +kernel
theorem dX6_strengthOf_1 : decode cX6_strengthOf 1 = .ok (.iload_n 1, 1) := by decide +kernel
theorem dX6_strengthOf_2 : decode cX6_strengthOf 2 = .ok (.invokevirtual 98, 3) := by decide +kernel
theorem dX6_strengthOf_5 : decode cX6_strengthOf 5 = .ok (.getfield 86, 3) := by decide +kernel
theorem dX6_strengthOf_8 : decode cX6_strengthOf 8 = .ok (.aload_n 0, 1) := by decide +kernel
theorem dX6_strengthOf_9 : decode cX6_strengthOf 9 = .ok (.iload_n 2, 1) := by decide +kernel
theorem dX6_strengthOf_10 : decode cX6_strengthOf 10 = .ok (.invokevirtual 98, 3) := by decide +kernel
theorem dX6_strengthOf_13 : decode cX6_strengthOf 13 = .ok (.getfield 86, 3) := by decide +kernel
theorem dX6_strengthOf_16 : decode cX6_strengthOf 16 = .ok (.iadd, 1) := by decide +kernel
theorem dX6_strengthOf_17 : decode cX6_strengthOf 17 = .ok (.aload_n 0, 1) := by decide +kernel
theorem dX6_strengthOf_18 : decode cX6_strengthOf 18 = .ok (.iload_n 3, 1) := by decide +kernel
theorem dX6_strengthOf_19 : decode cX6_strengthOf 19 = .ok (.invokevirtual 98, 3) := by decide +kernel
theorem dX6_strengthOf_22 : decode cX6_strengthOf 22 = .ok (.getfield 86, 3) := by decide +kernel
theorem dX6_strengthOf_25 : decode cX6_strengthOf 25 = .ok (.iadd, 1) := by decide +kernel
theorem dX6_strengthOf_26 : decode cX6_strengthOf 26 = .ok (.ireturn, 1) := by decide +kernel
theorem lf_RX6_86 : gLf RX6 86 9 0 := ⟨(RX9, TX9, 4), rfl, by decide, wA_t (wt1 (List.mem_of_getElem? (i := 134) (by decide +kernel))) (by decide +kernel), rfl⟩
def rm_X6_strengthOf : Room := { frames := 1, cells := 0, slots := 0, locals := 21 }
def f_X6_strengthOf (τ : gτ) (x0 : Nat) (x1 : Int32) (x2 : Int32) (x3 : Int32) (G : gG) : Option (Int32) :=
  (f_X6_yarnAt τ x0 x1 G).bind fun a1 =>
  gchk (gkd τ a1 9) <|
  (f_X6_yarnAt τ x0 x2 G).bind fun a2 =>
  gchk (gkd τ a2 9) <|
  (f_X6_yarnAt τ x0 x3 G).bind fun a3 =>
  gchk (gkd τ a3 9) <|
  some (((gi G 9 0 a1) + (gi G 9 0 a2)) + (gi G 9 0 a3))
set_option maxHeartbeats 4000000 in
set_option maxRecDepth 100000 in
theorem c_X6_strengthOf (l : Launch) (X : gX) (τ : gτ) (x0 : Nat) (x1 : Int32) (x2 : Int32) (x3 : Int32) (G : gG) (h0 : gK τ x0 6) {r : Int32}  (h : f_X6_strengthOf τ x0 x1 x2 x3 G = some r) : gM l X τ yX6_strengthOf cX6_strengthOf 4 (some .int) rm_X6_strengthOf [.ref x0, .int x1, .int x2, .int x3] G (some (.int r)) G := by
  refine g_body (by decide +kernel) (Nat.le_of_ble_eq_true rfl) ?_
  intro p e s m args below meth c ls fx hr hw hl
  have fx : gFx X p s m args meth c cX6_strengthOf 4 RX6 := fx
  have hl : lv_has ls 4 [(0, .ref x0), (1, .int x1), (2, .int x2), (3, .int x3)] := hl
  have hok : gOk (f_X6_strengthOf τ x0 x1 x2 x3 G) (fun q => q = r) := ⟨_, h, rfl⟩
  unfold f_X6_strengthOf at hok
  show W p l e rm_X6_strengthOf s m args below meth c s.heap [] 0 0 (MQ below (gQ X τ (some (.int r)) G) args s 0 0 (gFree X)) _
  refine lv_aload_n fx.1 fx.2.1 dX6_strengthOf_0 rfl (lv_at hl 0 rfl) ?_
  refine lv_iload_n fx.1 fx.2.1 dX6_strengthOf_1 rfl (lv_at hl 1 rfl) ?_
  obtain ⟨a1, hf, hok⟩ := gOk_bind hok
  refine g_callV0 (κ := 6) fx hw (c_X6_yarnAt l X τ x0 x1 G h0 hf) lv_RX6_98 ⟨rfl, rfl⟩ rfl rfl h0 rfl hl.1 rfl ⟨Nat.le_of_ble_eq_true rfl, Nat.le_of_ble_eq_true rfl⟩ (Nat.le_of_ble_eq_true rfl) ⟨Nat.le_of_ble_eq_true rfl, Nat.le_of_ble_eq_true rfl⟩ dX6_strengthOf_2 (fun H locs hw => ?_)
  obtain ⟨h_a1, hok⟩ := gOk_chk hok
  have h_a1 : gK τ a1 9 := gkd_K h_a1
  refine g_geti fx hw h_a1 lf_RX6_86 rfl dX6_strengthOf_5 ?_
  refine lv_aload_n fx.1 fx.2.1 dX6_strengthOf_8 rfl (lv_at hl 0 rfl) ?_
  refine lv_iload_n fx.1 fx.2.1 dX6_strengthOf_9 rfl (lv_at hl 2 rfl) ?_
  obtain ⟨a2, hf, hok⟩ := gOk_bind hok
  refine g_callV0 (κ := 6) fx hw (c_X6_yarnAt l X τ x0 x2 G h0 hf) lv_RX6_98 ⟨rfl, rfl⟩ rfl rfl h0 rfl hl.1 rfl ⟨Nat.le_of_ble_eq_true rfl, Nat.le_of_ble_eq_true rfl⟩ (Nat.le_of_ble_eq_true rfl) ⟨Nat.le_of_ble_eq_true rfl, Nat.le_of_ble_eq_true rfl⟩ dX6_strengthOf_10 (fun H locs hw => ?_)
  obtain ⟨h_a2, hok⟩ := gOk_chk hok
  have h_a2 : gK τ a2 9 := gkd_K h_a2
  refine g_geti fx hw h_a2 lf_RX6_86 rfl dX6_strengthOf_13 ?_
  refine lv_iadd fx.1 fx.2.1 dX6_strengthOf_16 ?_
  refine lv_aload_n fx.1 fx.2.1 dX6_strengthOf_17 rfl (lv_at hl 0 rfl) ?_
  refine lv_iload_n fx.1 fx.2.1 dX6_strengthOf_18 rfl (lv_at hl 3 rfl) ?_
  obtain ⟨a3, hf, hok⟩ := gOk_bind hok
  refine g_callV0 (κ := 6) fx hw (c_X6_yarnAt l X τ x0 x3 G h0 hf) lv_RX6_98 ⟨rfl, rfl⟩ rfl rfl h0 rfl hl.1 rfl ⟨Nat.le_of_ble_eq_true rfl, Nat.le_of_ble_eq_true rfl⟩ (Nat.le_of_ble_eq_true rfl) ⟨Nat.le_of_ble_eq_true rfl, Nat.le_of_ble_eq_true rfl⟩ dX6_strengthOf_19 (fun H locs hw => ?_)
  obtain ⟨h_a3, hok⟩ := gOk_chk hok
  have h_a3 : gK τ a3 9 := gkd_K h_a3
  refine g_geti fx hw h_a3 lf_RX6_86 rfl dX6_strengthOf_22 ?_
  refine lv_iadd fx.1 fx.2.1 dX6_strengthOf_25 ?_
  cases gOk_some hok
  exact g_iret fx hw hr dX6_strengthOf_26
theorem dX6_rotOf_0 : decode cX6_rotOf 0 = .ok (.aload_n 0, 1) := by decide +kernel
theorem dX6_rotOf_1 : decode cX6_rotOf 1 = .ok (.iload_n 1, 1) := by decide +kernel
theorem dX6_rotOf_2 : decode cX6_rotOf 2 = .ok (.invokevirtual 98, 3) := by decide +kernel
theorem dX6_rotOf_5 : decode cX6_rotOf 5 = .ok (.getfield 92, 3) := by decide +kernel
theorem dX6_rotOf_8 : decode cX6_rotOf 8 = .ok (.aload_n 0, 1) := by decide +kernel
theorem dX6_rotOf_9 : decode cX6_rotOf 9 = .ok (.iload_n 2, 1) := by decide +kernel
theorem dX6_rotOf_10 : decode cX6_rotOf 10 = .ok (.invokevirtual 98, 3) := by decide +kernel
theorem dX6_rotOf_13 : decode cX6_rotOf 13 = .ok (.getfield 92, 3) := by decide +kernel
theorem dX6_rotOf_16 : decode cX6_rotOf 16 = .ok (.iadd, 1) := by decide +kernel
theorem dX6_rotOf_17 : decode cX6_rotOf 17 = .ok (.aload_n 0, 1) := by decide +kernel
theorem dX6_rotOf_18 : decode cX6_rotOf 18 = .ok (.iload_n 3, 1) := by decide +kernel
theorem dX6_rotOf_19 : decode cX6_rotOf 19 = .ok (.invokevirtual 98, 3) := by decide +kernel
theorem dX6_rotOf_22 : decode cX6_rotOf 22 = .ok (.getfield 92, 3) := by decide +kernel
theorem dX6_rotOf_25 : decode cX6_rotOf 25 = .ok (.iadd, 1) := by decide +kernel
theorem dX6_rotOf_26 : decode cX6_rotOf 26 = .ok (.ireturn, 1) := by decide +kernel
theorem lf_RX6_92 : gLf RX6 92 9 2 := ⟨(RX9, TX9, 4), rfl, by decide, wA_t (wt1 (List.mem_of_getElem? (i := 141) (by decide +kernel))) (by decide +kernel), rfl⟩
def rm_X6_rotOf : Room := { frames := 1, cells := 0, slots := 0, locals := 21 }
def f_X6_rotOf (τ : gτ) (x0 : Nat) (x1 : Int32) (x2 : Int32) (x3 : Int32) (G : gG) : Option (Int32) :=
  (f_X6_yarnAt τ x0 x1 G).bind fun a1 =>
  gchk (gkd τ a1 9) <|
  (f_X6_yarnAt τ x0 x2 G).bind fun a2 =>
  gchk (gkd τ a2 9) <|
  (f_X6_yarnAt τ x0 x3 G).bind fun a3 =>
  gchk (gkd τ a3 9) <|
  some (((gi G 9 2 a1) + (gi G 9 2 a2)) + (gi G 9 2 a3))
set_option maxHeartbeats 4000000 in
set_option maxRecDepth 100000 in
theorem c_X6_rotOf (l : Launch) (X : gX) (τ : gτ) (x0 : Nat) (x1 : Int32) (x2 : Int32) (x3 : Int32) (G : gG) (h0 : gK τ x0 6) {r : Int32}  (h : f_X6_rotOf τ x0 x1 x2 x3 G = some r) : gM l X τ yX6_rotOf cX6_rotOf 4 (some .int) rm_X6_rotOf [.ref x0, .int x1, .int x2, .int x3] G (some (.int r)) G := by
  refine g_body (by decide +kernel) (Nat.le_of_ble_eq_true rfl) ?_
  intro p e s m args below meth c ls fx hr hw hl
  have fx : gFx X p s m args meth c cX6_rotOf 4 RX6 := fx
  have hl : lv_has ls 4 [(0, .ref x0), (1, .int x1), (2, .int x2), (3, .int x3)] := hl
  have hok : gOk (f_X6_rotOf τ x0 x1 x2 x3 G) (fun q => q = r) := ⟨_, h, rfl⟩
  unfold f_X6_rotOf at hok
  show W p l e rm_X6_rotOf s m args below meth c s.heap [] 0 0 (MQ below (gQ X τ (some (.int r)) G) args s 0 0 (gFree X)) _
  refine lv_aload_n fx.1 fx.2.1 dX6_rotOf_0 rfl (lv_at hl 0 rfl) ?_
  refine lv_iload_n fx.1 fx.2.1 dX6_rotOf_1 rfl (lv_at hl 1 rfl) ?_
  obtain ⟨a1, hf, hok⟩ := gOk_bind hok
  refine g_callV0 (κ := 6) fx hw (c_X6_yarnAt l X τ x0 x1 G h0 hf) lv_RX6_98 ⟨rfl, rfl⟩ rfl rfl h0 rfl hl.1 rfl ⟨Nat.le_of_ble_eq_true rfl, Nat.le_of_ble_eq_true rfl⟩ (Nat.le_of_ble_eq_true rfl) ⟨Nat.le_of_ble_eq_true rfl, Nat.le_of_ble_eq_true rfl⟩ dX6_rotOf_2 (fun H locs hw => ?_)
  obtain ⟨h_a1, hok⟩ := gOk_chk hok
  have h_a1 : gK τ a1 9 := gkd_K h_a1
  refine g_geti fx hw h_a1 lf_RX6_92 rfl dX6_rotOf_5 ?_
  refine lv_aload_n fx.1 fx.2.1 dX6_rotOf_8 rfl (lv_at hl 0 rfl) ?_
  refine lv_iload_n fx.1 fx.2.1 dX6_rotOf_9 rfl (lv_at hl 2 rfl) ?_
  obtain ⟨a2, hf, hok⟩ := gOk_bind hok
  refine g_callV0 (κ := 6) fx hw (c_X6_yarnAt l X τ x0 x2 G h0 hf) lv_RX6_98 ⟨rfl, rfl⟩ rfl rfl h0 rfl hl.1 rfl ⟨Nat.le_of_ble_eq_true rfl, Nat.le_of_ble_eq_true rfl⟩ (Nat.le_of_ble_eq_true rfl) ⟨Nat.le_of_ble_eq_true rfl, Nat.le_of_ble_eq_true rfl⟩ dX6_rotOf_10 (fun H locs hw => ?_)
  obtain ⟨h_a2, hok⟩ := gOk_chk hok
  have h_a2 : gK τ a2 9 := gkd_K h_a2
  refine g_geti fx hw h_a2 lf_RX6_92 rfl dX6_rotOf_13 ?_
  refine lv_iadd fx.1 fx.2.1 dX6_rotOf_16 ?_
  refine lv_aload_n fx.1 fx.2.1 dX6_rotOf_17 rfl (lv_at hl 0 rfl) ?_
  refine lv_iload_n fx.1 fx.2.1 dX6_rotOf_18 rfl (lv_at hl 3 rfl) ?_
  obtain ⟨a3, hf, hok⟩ := gOk_bind hok
  refine g_callV0 (κ := 6) fx hw (c_X6_yarnAt l X τ x0 x3 G h0 hf) lv_RX6_98 ⟨rfl, rfl⟩ rfl rfl h0 rfl hl.1 rfl ⟨Nat.le_of_ble_eq_true rfl, Nat.le_of_ble_eq_true rfl⟩ (Nat.le_of_ble_eq_true rfl) ⟨Nat.le_of_ble_eq_true rfl, Nat.le_of_ble_eq_true rfl⟩ dX6_rotOf_19 (fun H locs hw => ?_)
  obtain ⟨h_a3, hok⟩ := gOk_chk hok
  have h_a3 : gK τ a3 9 := gkd_K h_a3
  refine g_geti fx hw h_a3 lf_RX6_92 rfl dX6_rotOf_22 ?_
  refine lv_iadd fx.1 fx.2.1 dX6_rotOf_25 ?_
  cases gOk_some hok
  exact g_iret fx hw hr dX6_rotOf_26
theorem dX6_usesOf_0 : decode cX6_usesOf 0 = .ok (.iconst 0, 1) := by decide +kernel
theorem dX6_usesOf_1 : decode cX6_usesOf 1 = .ok (.istore_n 2, 1) := by decide +kernel
theorem dX6_usesOf_2 : decode cX6_usesOf 2 = .ok (.iconst 0, 1) := by decide +kernel
theorem dX6_usesOf_3 : decode cX6_usesOf 3 = .ok (.istore_n 3, 1) := by decide +kernel
theorem dX6_usesOf_4 : decode cX6_usesOf 4 = .ok (.iload_n 3, 1) := by decide +kernel
theorem dX6_usesOf_5 : decode cX6_usesOf 5 = .ok (.aload_n 0, 1) := by decide +kernel
theorem dX6_usesOf_6 : decode cX6_usesOf 6 = .ok (.getfield 50, 3) := by decide +kernel
theorem dX6_usesOf_9 : decode cX6_usesOf 9 = .ok (.if_icmp .ge 28, 3) := by decide +kernel
theorem dX6_usesOf_12 : decode cX6_usesOf 12 = .ok (.aload_n 0, 1) := by decide +kernel
theorem dX6_usesOf_13 : decode cX6_usesOf 13 = .ok (.getfield 19, 3) := by decide +kernel
theorem dX6_usesOf_16 : decode cX6_usesOf 16 = .ok (.iload_n 3, 1) := by decide +kernel
theorem dX6_usesOf_17 : decode cX6_usesOf 17 = .ok (.aaload, 1) := by decide +kernel
theorem dX6_usesOf_18 : decode cX6_usesOf 18 = .ok (.iload_n 1, 1) := by decide +kernel
theorem dX6_usesOf_19 : decode cX6_usesOf 19 = .ok (.invokevirtual 108, 3) := by decide +kernel
theorem dX6_usesOf_22 : decode cX6_usesOf 22 = .ok (.ifCond .eq 9, 3) := by decide +kernel
theorem dX6_usesOf_25 : decode cX6_usesOf 25 = .ok (.iload_n 2, 1) := by decide +kernel
theorem dX6_usesOf_26 : decode cX6_usesOf 26 = .ok (.iconst 1, 1) := by decide +kernel
theorem dX6_usesOf_27 : decode cX6_usesOf 27 = .ok (.iload_n 3, 1) := by decide +kernel
theorem dX6_usesOf_28 : decode cX6_usesOf 28 = .ok (.ishl, 1) := by decide +kernel
theorem dX6_usesOf_29 : decode cX6_usesOf 29 = .ok (.ior, 1) := by decide +kernel
theorem dX6_usesOf_30 : decode cX6_usesOf 30 = .ok (.istore_n 2, 1) := by decide +kernel
theorem dX6_usesOf_31 : decode cX6_usesOf 31 = .ok (.iinc 3 1, 3) := by decide +kernel
theorem dX6_usesOf_34 : decode cX6_usesOf 34 = .ok (.goto (-30), 3) := by decide +kernel
theorem dX6_usesOf_37 : decode cX6_usesOf 37 = .ok (.iload_n 2, 1) := by decide +kernel
theorem dX6_usesOf_38 : decode cX6_usesOf 38 = .ok (.ireturn, 1) := by decide +kernel
theorem lv_RX6_108 : gLv RX6 108 RX5 yX5_isOf cX5_isOf 2 (some .boolean) 1 := gLv_of (wA_t (wt5 (List.mem_of_getElem? (i := 30) (by decide +kernel))) (by decide +kernel)) (wA_t (wt5 (List.mem_of_getElem? (i := 31) (by decide +kernel))) (by decide +kernel)) (wA_t (wt5 (List.mem_of_getElem? (i := 32) (by decide +kernel))) (by decide +kernel)) (wA_t (wt1 (List.mem_of_getElem? (i := 9) (by decide +kernel))) (by decide +kernel)) (wA_t (wt5 (List.mem_of_getElem? (i := 33) (by decide +kernel))) (by decide +kernel)) ⟨rfl, by decide +kernel, by decide +kernel, by decide +kernel⟩
def rm_X6_usesOf : Room := { frames := 1, cells := 0, slots := 0, locals := 21 }
def b_X6_usesOf_4 (τ : gτ) (n : Nat) (x0 : Nat) (x1 : Int32) (x2 : Int32) (x3 : Int32) (G : gG) : Option ((Int32 × Int32) ⊕ ((Int32))) :=
  if (gi G 6 5 x0) ≤ x3 then (some (.inr x2))
  else ((gr G 6 1 x0).bind fun a1 =>
  gchk (gIn x3 (gn τ a1)) <| (gq G a1 (Int32.toNatClampNeg x3)).bind fun a2 =>
  (f_X5_isOf a2 x1 G).bind fun v3 =>
  if v3 = 0 then (gLet (x3 + 1) fun v4 =>
  some (.inl (x2, v4)))
  else (gLet (x2 ||| ((1 : Int32) <<< (x3 &&& 31))) fun v5 =>
  gLet (x3 + 1) fun v6 =>
  some (.inl (v5, v6))))
def l_X6_usesOf_4 (τ : gτ) (n : Nat) (x0 : Nat) (x1 : Int32) (x2 : Int32) (x3 : Int32) (G : gG) : Option ((Int32)) :=
  gIter (fun (q : Int32 × Int32) => b_X6_usesOf_4 τ n x0 x1 q.1 q.2 G) n (x2, x3)
def f_X6_usesOf (τ : gτ) (n : Nat) (x0 : Nat) (x1 : Int32) (G : gG) : Option (Int32) :=
  (l_X6_usesOf_4 τ n x0 x1 (0 : Int32) (0 : Int32) G).bind fun q => gLet q fun z7 => 
  some (z7)
set_option maxHeartbeats 4000000 in
set_option maxRecDepth 100000 in
theorem w_b_X6_usesOf_4 {X : gX} {τ : gτ} {p : Program} {l : Launch} {e : Env} {s : State} {m : MethodId} {args : Array Value} {below : List Frame} {meth : Method} {c : Code} (fx : gFx X p s m args meth c cX6_usesOf 4 RX6) (n : Nat) (x0 : Nat) (x1 : Int32) (x2 : Int32) (x3 : Int32) (h0 : gK τ x0 6) {Q : State → Prop} {K : ((Int32 × Int32) ⊕ ((Int32))) → Prop} {G : gG} {H : Heap} {locs : List Loc} {ls : Array Slot} (hw : gHw X τ G H locs) (hl : lv_has ls 4 [(0, .ref x0), (1, .int x1), (2, .int x2), (3, .int x3)]) (hok : gOk (b_X6_usesOf_4 τ n x0 x1 x2 x3 G) K) (hc : ∀ (y2 : Int32) (y3 : Int32) (H : Heap) (locs : List Loc) (ls : Array Slot), gHw X τ G H locs → lv_has ls 4 [(0, .ref x0), (1, .int x1), (2, .int y2), (3, .int y3)] → K (.inl (y2, y3)) → W p l e rm_X6_usesOf s m args below meth c H locs 0 0 Q (F0 m 4 ls [])) (hx0 : ∀ (y2 : Int32) (H : Heap) (locs : List Loc) (ls : Array Slot), gHw X τ G H locs → lv_has ls 4 [(2, .int y2)] → K (.inr y2) → W p l e rm_X6_usesOf s m args below meth c H locs 0 0 Q (F0 m 37 ls [])) : W p l e rm_X6_usesOf s m args below meth c H locs 0 0 Q (F0 m 4 ls []) := by
  unfold b_X6_usesOf_4 at hok
  refine lv_iload_n fx.1 fx.2.1 dX6_usesOf_4 rfl (lv_at hl 3 rfl) ?_
  refine lv_aload_n fx.1 fx.2.1 dX6_usesOf_5 rfl (lv_at hl 0 rfl) ?_
  refine g_geti fx hw h0 lf_RX6_50 rfl dX6_usesOf_6 ?_
  refine g_icmp_ge (tgt := 37) fx dX6_usesOf_9 (by decide) hok (fun hok => ?_) (fun hok => ?_)
  · exact hx0 x2  _ _ _  hw (lv_sub hl [2] rfl) (gOk_some hok)
  · refine lv_aload_n fx.1 fx.2.1 dX6_usesOf_12 rfl (lv_at hl 0 rfl) ?_
    refine g_getr fx hw h0 lf_RX6_19 rfl dX6_usesOf_13 hok (fun a1 h_a1 hok => ?_)
    refine lv_iload_n fx.1 fx.2.1 dX6_usesOf_16 rfl (lv_at hl 3 rfl) ?_
    refine g_aald fx hw 15 3 h_a1 (by decide) (by decide) rfl (κ' := 5) rfl dX6_usesOf_17 hok (fun a2 h_a2 hok => ?_)
    refine lv_iload_n fx.1 fx.2.1 dX6_usesOf_18 rfl (lv_at hl 1 rfl) ?_
    obtain ⟨v3, hf, hok⟩ := gOk_bind hok
    refine g_callV0 (κ := 5) fx hw (c_X5_isOf l X τ a2 x1 G h_a2 hf) lv_RX6_108 ⟨rfl, rfl⟩ rfl rfl h_a2 rfl hl.1 rfl ⟨Nat.le_of_ble_eq_true rfl, Nat.le_of_ble_eq_true rfl⟩ (Nat.le_of_ble_eq_true rfl) ⟨Nat.le_of_ble_eq_true rfl, Nat.le_of_ble_eq_true rfl⟩ dX6_usesOf_19 (fun H locs hw => ?_)
    refine g_if_eq (tgt := 31) fx dX6_usesOf_22 (by decide) hok (fun hok => ?_) (fun hok => ?_)
    · obtain ⟨v4, e_v4, hok⟩ := gOk_let hok
      refine lv_iinc (v := v4) (lv' := [(3, .int v4), (0, .ref x0), (1, .int x1), (2, .int x2)]) fx.1 fx.2.1 dX6_usesOf_31 hl (k := 3) rfl (by rw [e_v4]; rfl) (by decide) rfl (fun ls hl => ?_)
      refine lv_goto (tgt := 4) fx.1 fx.2.1 dX6_usesOf_34 (by decide) ?_
      exact hc x2 v4  _ _ _  hw (lv_sub hl [1, 2, 3, 0] rfl) (gOk_some hok)
    · refine lv_iload_n fx.1 fx.2.1 dX6_usesOf_25 rfl (lv_at hl 2 rfl) ?_
      refine lv_iconst (v := 1) fx.1 fx.2.1 dX6_usesOf_26 (by decide) ?_
      refine lv_iload_n fx.1 fx.2.1 dX6_usesOf_27 rfl (lv_at hl 3 rfl) ?_
      refine lv_ishl fx.1 fx.2.1 dX6_usesOf_28 ?_
      refine lv_ior fx.1 fx.2.1 dX6_usesOf_29 ?_
      refine g_leti hok (fun v5 hok => ?_)
      refine lv_istore_n (lv' := [(2, .int v5), (0, .ref x0), (1, .int x1), (3, .int x3)]) fx.1 fx.2.1 dX6_usesOf_30 rfl hl (by decide) rfl (fun ls hl => ?_)
      obtain ⟨v6, e_v6, hok⟩ := gOk_let hok
      refine lv_iinc (v := v6) (lv' := [(3, .int v6), (2, .int v5), (0, .ref x0), (1, .int x1)]) fx.1 fx.2.1 dX6_usesOf_31 hl (k := 3) rfl (by rw [e_v6]; rfl) (by decide) rfl (fun ls hl => ?_)
      refine lv_goto (tgt := 4) fx.1 fx.2.1 dX6_usesOf_34 (by decide) ?_
      exact hc v5 v6  _ _ _  hw (lv_sub hl [2, 3, 1, 0] rfl) (gOk_some hok)
theorem w_l_X6_usesOf_4 {X : gX} {τ : gτ} {p : Program} {l : Launch} {e : Env} {s : State} {m : MethodId} {args : Array Value} {below : List Frame} {meth : Method} {c : Code} (fx : gFx X p s m args meth c cX6_usesOf 4 RX6) (n : Nat) (x0 : Nat) (x1 : Int32) (h0 : gK τ x0 6) (G : gG) {Q : State → Prop} {K : ((Int32)) → Prop} (hx0 : ∀ (y2 : Int32) (H : Heap) (locs : List Loc) (ls : Array Slot), gHw X τ G H locs → lv_has ls 4 [(2, .int y2)] → K y2 → W p l e rm_X6_usesOf s m args below meth c H locs 0 0 Q (F0 m 37 ls [])) : ∀ (k : Nat) (x2 : Int32) (x3 : Int32) (H : Heap) (locs : List Loc) (ls : Array Slot), gHw X τ G H locs → lv_has ls 4 [(0, .ref x0), (1, .int x1), (2, .int x2), (3, .int x3)] → gOk (gIter (fun (q : Int32 × Int32) => b_X6_usesOf_4 τ n x0 x1 q.1 q.2 G) k (x2, x3)) K → W p l e rm_X6_usesOf s m args below meth c H locs 0 0 Q (F0 m 4 ls []) := by
  intro k
  induction k with
  | zero =>
    intro x2 x3  H locs ls hw hl hok
    exact gOk_iter0 hok
  | succ k hc =>
    intro x2 x3  H locs ls hw hl hok
    exact w_b_X6_usesOf_4 fx n x0 x1 x2 x3 h0 hw hl (gOk_iter hok) hc hx0
set_option maxHeartbeats 4000000 in
set_option maxRecDepth 100000 in
theorem c_X6_usesOf (l : Launch) (X : gX) (τ : gτ) (n : Nat) (x0 : Nat) (x1 : Int32) (G : gG) (h0 : gK τ x0 6) {r : Int32}  (h : f_X6_usesOf τ n x0 x1 G = some r) : gM l X τ yX6_usesOf cX6_usesOf 4 (some .int) rm_X6_usesOf [.ref x0, .int x1] G (some (.int r)) G := by
  refine g_body (by decide +kernel) (Nat.le_of_ble_eq_true rfl) ?_
  intro p e s m args below meth c ls fx hr hw hl
  have fx : gFx X p s m args meth c cX6_usesOf 4 RX6 := fx
  have hl : lv_has ls 4 [(0, .ref x0), (1, .int x1)] := hl
  have hok : gOk (f_X6_usesOf τ n x0 x1 G) (fun q => q = r) := ⟨_, h, rfl⟩
  unfold f_X6_usesOf at hok
  show W p l e rm_X6_usesOf s m args below meth c s.heap [] 0 0 (MQ below (gQ X τ (some (.int r)) G) args s 0 0 (gFree X)) _
  refine lv_iconst (v := 0) fx.1 fx.2.1 dX6_usesOf_0 (by decide) ?_
  refine lv_istore_n (lv' := [(2, .int (0 : Int32)), (0, .ref x0), (1, .int x1)]) fx.1 fx.2.1 dX6_usesOf_1 rfl hl (by decide) rfl (fun ls hl => ?_)
  refine lv_iconst (v := 0) fx.1 fx.2.1 dX6_usesOf_2 (by decide) ?_
  refine lv_istore_n (lv' := [(3, .int (0 : Int32)), (2, .int (0 : Int32)), (0, .ref x0), (1, .int x1)]) fx.1 fx.2.1 dX6_usesOf_3 rfl hl (by decide) rfl (fun ls hl => ?_)
  refine w_l_X6_usesOf_4 fx n x0 x1 h0 G ?_ n (0 : Int32) (0 : Int32)  _ _ _  hw (lv_sub hl [2, 3, 1, 0] rfl) (gOk_bindK hok)
  intro z7  H locs ls hw hl hok
  have hok : gOk (ρ := Int32) (some (z7)) _ := hok
  refine lv_iload_n fx.1 fx.2.1 dX6_usesOf_37 rfl (lv_at hl 0 rfl) ?_
  cases gOk_some hok
  exact g_iret fx hw hr dX6_usesOf_38
theorem dX6_addRope_0 : decode cX6_addRope 0 = .ok (.aload_n 0, 1) := by decide +kernel
theorem dX6_addRope_1 : decode cX6_addRope 1 = .ok (.getfield 50, 3) := by decide +kernel
theorem dX6_addRope_4 : decode cX6_addRope 4 = .ok (.bipush 8, 2) := by decide +kernel
theorem dX6_addRope_6 : decode cX6_addRope 6 = .ok (.if_icmp .lt 5, 3) := by decide +kernel
theorem dX6_addRope_9 : decode cX6_addRope 9 = .ok (.iconst (-1), 1) := by decide +kernel
theorem dX6_addRope_10 : decode cX6_addRope 10 = .ok (.ireturn, 1) := by decide +kernel
theorem dX6_addRope_11 : decode cX6_addRope 11 = .ok (.aload_n 0, 1) := by decide +kernel
theorem dX6_addRope_12 : decode cX6_addRope 12 = .ok (.iload_n 1, 1) := by decide +kernel
theorem dX6_addRope_13 : decode cX6_addRope 13 = .ok (.invokevirtual 98, 3) := by decide +kernel
theorem dX6_addRope_16 : decode cX6_addRope 16 = .ok (.dup, 1) := by decide +kernel
theorem dX6_addRope_17 : decode cX6_addRope 17 = .ok (.getfield 89, 3) := by decide +kernel
theorem dX6_addRope_20 : decode cX6_addRope 20 = .ok (.iload 4, 2) := by decide +kernel
theorem dX6_addRope_22 : decode cX6_addRope 22 = .ok (.isub, 1) := by decide +kernel
theorem dX6_addRope_23 : decode cX6_addRope 23 = .ok (.putfield 89, 3) := by decide +kernel
theorem dX6_addRope_26 : decode cX6_addRope 26 = .ok (.aload_n 0, 1) := by decide +kernel
theorem dX6_addRope_27 : decode cX6_addRope 27 = .ok (.iload_n 2, 1) := by decide +kernel
theorem dX6_addRope_28 : decode cX6_addRope 28 = .ok (.invokevirtual 98, 3) := by decide +kernel
theorem dX6_addRope_31 : decode cX6_addRope 31 = .ok (.dup, 1) := by decide +kernel
theorem dX6_addRope_32 : decode cX6_addRope 32 = .ok (.getfield 89, 3) := by decide +kernel
theorem dX6_addRope_35 : decode cX6_addRope 35 = .ok (.iload 4, 2) := by decide +kernel
theorem dX6_addRope_37 : decode cX6_addRope 37 = .ok (.isub, 1) := by decide +kernel
theorem dX6_addRope_38 : decode cX6_addRope 38 = .ok (.putfield 89, 3) := by decide +kernel
theorem dX6_addRope_41 : decode cX6_addRope 41 = .ok (.aload_n 0, 1) := by decide +kernel
theorem dX6_addRope_42 : decode cX6_addRope 42 = .ok (.iload_n 3, 1) := by decide +kernel
theorem dX6_addRope_43 : decode cX6_addRope 43 = .ok (.invokevirtual 98, 3) := by decide +kernel
theorem dX6_addRope_46 : decode cX6_addRope 46 = .ok (.dup, 1) := by decide +kernel
theorem dX6_addRope_47 : decode cX6_addRope 47 = .ok (.getfield 89, 3) := by decide +kernel
theorem dX6_addRope_50 : decode cX6_addRope 50 = .ok (.iload 4, 2) := by decide +kernel
theorem dX6_addRope_52 : decode cX6_addRope 52 = .ok (.isub, 1) := by decide +kernel
theorem dX6_addRope_53 : decode cX6_addRope 53 = .ok (.putfield 89, 3) := by decide +kernel
theorem dX6_addRope_56 : decode cX6_addRope 56 = .ok (.aload_n 0, 1) := by decide +kernel
theorem dX6_addRope_57 : decode cX6_addRope 57 = .ok (.getfield 19, 3) := by decide +kernel
theorem dX6_addRope_60 : decode cX6_addRope 60 = .ok (.aload_n 0, 1) := by decide +kernel
theorem dX6_addRope_61 : decode cX6_addRope 61 = .ok (.getfield 50, 3) := by decide +kernel
theorem dX6_addRope_64 : decode cX6_addRope 64 = .ok (.aaload, 1) := by decide +kernel
theorem dX6_addRope_65 : decode cX6_addRope 65 = .ok (.iload_n 1, 1) := by decide +kernel
theorem dX6_addRope_66 : decode cX6_addRope 66 = .ok (.iload_n 2, 1) := by decide +kernel
theorem dX6_addRope_67 : decode cX6_addRope 67 = .ok (.iload_n 3, 1) := by decide +kernel
theorem dX6_addRope_68 : decode cX6_addRope 68 = .ok (.iload 4, 2) := by decide +kernel
theorem dX6_addRope_70 : decode cX6_addRope 70 = .ok (.invokevirtual 112, 3) := by decide +kernel
theorem dX6_addRope_73 : decode cX6_addRope 73 = .ok (.aload_n 0, 1) := by decide +kernel
theorem dX6_addRope_74 : decode cX6_addRope 74 = .ok (.dup, 1) := by decide +kernel
theorem dX6_addRope_75 : decode cX6_addRope 75 = .ok (.getfield 50, 3) := by decide +kernel
theorem dX6_addRope_78 : decode cX6_addRope 78 = .ok (.iconst 1, 1) := by decide +kernel
theorem dX6_addRope_79 : decode cX6_addRope 79 = .ok (.iadd, 1) := by decide +kernel
theorem dX6_addRope_80 : decode cX6_addRope 80 = .ok (.putfield 50, 3) := by decide +kernel
theorem dX6_addRope_83 : decode cX6_addRope 83 = .ok (.aload_n 0, 1) := by decide +kernel
theorem dX6_addRope_84 : decode cX6_addRope 84 = .ok (.getfield 50, 3) := by decide +kernel
theorem dX6_addRope_87 : decode cX6_addRope 87 = .ok (.iconst 1, 1) := by decide +kernel
theorem dX6_addRope_88 : decode cX6_addRope 88 = .ok (.isub, 1) := by decide +kernel
theorem dX6_addRope_89 : decode cX6_addRope 89 = .ok (.ireturn, 1) := by decide +kernel
theorem lv_RX6_112 : gLv RX6 112 RX5 yX5_beLaid cX5_beLaid 5 none 4 := gLv_of (wA_t (wt4 (List.mem_of_getElem? (i := 25) (by decide +kernel))) (by decide +kernel)) (wA_t (wt3 (List.mem_of_getElem? (i := 31) (by decide +kernel))) (by decide +kernel)) (wA_t (wt3 (List.mem_of_getElem? (i := 32) (by decide +kernel))) (by decide +kernel)) (wA_t (wt1 (List.mem_of_getElem? (i := 9) (by decide +kernel))) (by decide +kernel)) (wA_t (wt3 (List.mem_of_getElem? (i := 33) (by decide +kernel))) (by decide +kernel)) ⟨rfl, by decide +kernel, by decide +kernel, by decide +kernel⟩
def rm_X6_addRope : Room := { frames := 1, cells := 0, slots := 0, locals := 24 }
def f_X6_addRope (τ : gτ) (x0 : Nat) (x1 : Int32) (x2 : Int32) (x3 : Int32) (x4 : Int32) (G : gG) : Option (Int32 × gG) :=
  if (gi G 6 5 x0) < (8 : Int32) then ((f_X6_yarnAt τ x0 x1 G).bind fun a1 =>
  gchk (gkd τ a1 9) <|
  gLet (gsi G 9 1 a1 ((gi G 9 1 a1) - x4)) fun G2 =>
  (f_X6_yarnAt τ x0 x2 G2).bind fun a3 =>
  gchk (gkd τ a3 9) <|
  gLet (gsi G2 9 1 a3 ((gi G2 9 1 a3) - x4)) fun G4 =>
  (f_X6_yarnAt τ x0 x3 G4).bind fun a5 =>
  gchk (gkd τ a5 9) <|
  gLet (gsi G4 9 1 a5 ((gi G4 9 1 a5) - x4)) fun G6 =>
  (gr G6 6 1 x0).bind fun a7 =>
  gchk (gIn (gi G6 6 5 x0) (gn τ a7)) <| (gq G6 a7 (Int32.toNatClampNeg (gi G6 6 5 x0))).bind fun a8 =>
  (f_X5_beLaid a8 x1 x2 x3 x4 G6).bind fun G9 =>
  gLet (gsi G9 6 5 x0 ((gi G9 6 5 x0) + (1 : Int32))) fun G10 =>
  some ((gi G10 6 5 x0) - (1 : Int32), G10))
  else (some ((-1), G))
set_option maxHeartbeats 4000000 in
set_option maxRecDepth 100000 in
theorem c_X6_addRope (l : Launch) (X : gX) (τ : gτ) (x0 : Nat) (x1 : Int32) (x2 : Int32) (x3 : Int32) (x4 : Int32) (G : gG) (h0 : gK τ x0 6) {r : Int32} {G' : gG} (h : f_X6_addRope τ x0 x1 x2 x3 x4 G = some (r, G')) : gM l X τ yX6_addRope cX6_addRope 5 (some .int) rm_X6_addRope [.ref x0, .int x1, .int x2, .int x3, .int x4] G (some (.int r)) G' := by
  refine g_body (by decide +kernel) (Nat.le_of_ble_eq_true rfl) ?_
  intro p e s m args below meth c ls fx hr hw hl
  have fx : gFx X p s m args meth c cX6_addRope 5 RX6 := fx
  have hl : lv_has ls 5 [(0, .ref x0), (1, .int x1), (2, .int x2), (3, .int x3), (4, .int x4)] := hl
  have hok : gOk (f_X6_addRope τ x0 x1 x2 x3 x4 G) (fun q => q = (r, G')) := ⟨_, h, rfl⟩
  unfold f_X6_addRope at hok
  show W p l e rm_X6_addRope s m args below meth c s.heap [] 0 0 (MQ below (gQ X τ (some (.int r)) G') args s 0 0 (gFree X)) _
  refine lv_aload_n fx.1 fx.2.1 dX6_addRope_0 rfl (lv_at hl 0 rfl) ?_
  refine g_geti fx hw h0 lf_RX6_50 rfl dX6_addRope_1 ?_
  refine lv_bipush (v := 8) fx.1 fx.2.1 dX6_addRope_4 (by decide) ?_
  refine g_icmp_lt (tgt := 11) fx dX6_addRope_6 (by decide) hok (fun hok => ?_) (fun hok => ?_)
  · refine lv_aload_n fx.1 fx.2.1 dX6_addRope_11 rfl (lv_at hl 0 rfl) ?_
    refine lv_iload_n fx.1 fx.2.1 dX6_addRope_12 rfl (lv_at hl 1 rfl) ?_
    obtain ⟨a1, hf, hok⟩ := gOk_bind hok
    refine g_callV0 (κ := 6) fx hw (c_X6_yarnAt l X τ x0 x1 G h0 hf) lv_RX6_98 ⟨rfl, rfl⟩ rfl rfl h0 rfl hl.1 rfl ⟨Nat.le_of_ble_eq_true rfl, Nat.le_of_ble_eq_true rfl⟩ (Nat.le_of_ble_eq_true rfl) ⟨Nat.le_of_ble_eq_true rfl, Nat.le_of_ble_eq_true rfl⟩ dX6_addRope_13 (fun H locs hw => ?_)
    obtain ⟨h_a1, hok⟩ := gOk_chk hok
    have h_a1 : gK τ a1 9 := gkd_K h_a1
    refine lv_dup fx.1 fx.2.1 dX6_addRope_16 rfl ?_
    refine g_geti fx hw h_a1 lf_RX6_89 rfl dX6_addRope_17 ?_
    refine lv_iload fx.1 fx.2.1 dX6_addRope_20 (lv_at hl 4 rfl) ?_
    refine lv_isub fx.1 fx.2.1 dX6_addRope_22 ?_
    refine g_puti fx hw h_a1 lp_RX6_89 rfl rfl dX6_addRope_23 hok (fun G2 H locs hw hok => ?_)
    refine lv_aload_n fx.1 fx.2.1 dX6_addRope_26 rfl (lv_at hl 0 rfl) ?_
    refine lv_iload_n fx.1 fx.2.1 dX6_addRope_27 rfl (lv_at hl 2 rfl) ?_
    obtain ⟨a3, hf, hok⟩ := gOk_bind hok
    refine g_callV0 (κ := 6) fx hw (c_X6_yarnAt l X τ x0 x2 G2 h0 hf) lv_RX6_98 ⟨rfl, rfl⟩ rfl rfl h0 rfl hl.1 rfl ⟨Nat.le_of_ble_eq_true rfl, Nat.le_of_ble_eq_true rfl⟩ (Nat.le_of_ble_eq_true rfl) ⟨Nat.le_of_ble_eq_true rfl, Nat.le_of_ble_eq_true rfl⟩ dX6_addRope_28 (fun H locs hw => ?_)
    obtain ⟨h_a3, hok⟩ := gOk_chk hok
    have h_a3 : gK τ a3 9 := gkd_K h_a3
    refine lv_dup fx.1 fx.2.1 dX6_addRope_31 rfl ?_
    refine g_geti fx hw h_a3 lf_RX6_89 rfl dX6_addRope_32 ?_
    refine lv_iload fx.1 fx.2.1 dX6_addRope_35 (lv_at hl 4 rfl) ?_
    refine lv_isub fx.1 fx.2.1 dX6_addRope_37 ?_
    refine g_puti fx hw h_a3 lp_RX6_89 rfl rfl dX6_addRope_38 hok (fun G4 H locs hw hok => ?_)
    refine lv_aload_n fx.1 fx.2.1 dX6_addRope_41 rfl (lv_at hl 0 rfl) ?_
    refine lv_iload_n fx.1 fx.2.1 dX6_addRope_42 rfl (lv_at hl 3 rfl) ?_
    obtain ⟨a5, hf, hok⟩ := gOk_bind hok
    refine g_callV0 (κ := 6) fx hw (c_X6_yarnAt l X τ x0 x3 G4 h0 hf) lv_RX6_98 ⟨rfl, rfl⟩ rfl rfl h0 rfl hl.1 rfl ⟨Nat.le_of_ble_eq_true rfl, Nat.le_of_ble_eq_true rfl⟩ (Nat.le_of_ble_eq_true rfl) ⟨Nat.le_of_ble_eq_true rfl, Nat.le_of_ble_eq_true rfl⟩ dX6_addRope_43 (fun H locs hw => ?_)
    obtain ⟨h_a5, hok⟩ := gOk_chk hok
    have h_a5 : gK τ a5 9 := gkd_K h_a5
    refine lv_dup fx.1 fx.2.1 dX6_addRope_46 rfl ?_
    refine g_geti fx hw h_a5 lf_RX6_89 rfl dX6_addRope_47 ?_
    refine lv_iload fx.1 fx.2.1 dX6_addRope_50 (lv_at hl 4 rfl) ?_
    refine lv_isub fx.1 fx.2.1 dX6_addRope_52 ?_
    refine g_puti fx hw h_a5 lp_RX6_89 rfl rfl dX6_addRope_53 hok (fun G6 H locs hw hok => ?_)
    refine lv_aload_n fx.1 fx.2.1 dX6_addRope_56 rfl (lv_at hl 0 rfl) ?_
    refine g_getr fx hw h0 lf_RX6_19 rfl dX6_addRope_57 hok (fun a7 h_a7 hok => ?_)
    refine lv_aload_n fx.1 fx.2.1 dX6_addRope_60 rfl (lv_at hl 0 rfl) ?_
    refine g_geti fx hw h0 lf_RX6_50 rfl dX6_addRope_61 ?_
    refine g_aald fx hw 15 3 h_a7 (by decide) (by decide) rfl (κ' := 5) rfl dX6_addRope_64 hok (fun a8 h_a8 hok => ?_)
    refine lv_iload_n fx.1 fx.2.1 dX6_addRope_65 rfl (lv_at hl 1 rfl) ?_
    refine lv_iload_n fx.1 fx.2.1 dX6_addRope_66 rfl (lv_at hl 2 rfl) ?_
    refine lv_iload_n fx.1 fx.2.1 dX6_addRope_67 rfl (lv_at hl 3 rfl) ?_
    refine lv_iload fx.1 fx.2.1 dX6_addRope_68 (lv_at hl 4 rfl) ?_
    obtain ⟨G9, hf, hok⟩ := gOk_bind hok
    refine g_callV0 (κ := 5) fx hw (c_X5_beLaid l X τ a8 x1 x2 x3 x4 G6 h_a8 hf) lv_RX6_112 ⟨rfl, rfl⟩ rfl rfl h_a8 rfl hl.1 rfl ⟨Nat.le_of_ble_eq_true rfl, Nat.le_of_ble_eq_true rfl⟩ (Nat.le_of_ble_eq_true rfl) ⟨Nat.le_of_ble_eq_true rfl, Nat.le_of_ble_eq_true rfl⟩ dX6_addRope_70 (fun H locs hw => ?_)
    refine lv_aload_n fx.1 fx.2.1 dX6_addRope_73 rfl (lv_at hl 0 rfl) ?_
    refine lv_dup fx.1 fx.2.1 dX6_addRope_74 rfl ?_
    refine g_geti fx hw h0 lf_RX6_50 rfl dX6_addRope_75 ?_
    refine lv_iconst (v := 1) fx.1 fx.2.1 dX6_addRope_78 (by decide) ?_
    refine lv_iadd fx.1 fx.2.1 dX6_addRope_79 ?_
    refine g_puti fx hw h0 lp_RX6_50 rfl rfl dX6_addRope_80 hok (fun G10 H locs hw hok => ?_)
    refine lv_aload_n fx.1 fx.2.1 dX6_addRope_83 rfl (lv_at hl 0 rfl) ?_
    refine g_geti fx hw h0 lf_RX6_50 rfl dX6_addRope_84 ?_
    refine lv_iconst (v := 1) fx.1 fx.2.1 dX6_addRope_87 (by decide) ?_
    refine lv_isub fx.1 fx.2.1 dX6_addRope_88 ?_
    cases gOk_some hok
    exact g_iret fx hw hr dX6_addRope_89
  · refine lv_iconst (v := (-1)) fx.1 fx.2.1 dX6_addRope_9 (by decide) ?_
    cases gOk_some hok
    exact g_iret fx hw hr dX6_addRope_10
theorem dX6_addPiece_0 : decode cX6_addPiece 0 = .ok (.aload_n 0, 1) := by decide +kernel
theorem dX6_addPiece_1 : decode cX6_addPiece 1 = .ok (.getfield 50, 3) := by decide +kernel
theorem dX6_addPiece_4 : decode cX6_addPiece 4 = .ok (.bipush 8, 2) := by decide +kernel
theorem dX6_addPiece_6 : decode cX6_addPiece 6 = .ok (.if_icmp .lt 5, 3) := by decide +kernel
theorem dX6_addPiece_9 : decode cX6_addPiece 9 = .ok (.iconst (-1), 1) := by decide +kernel
theorem dX6_addPiece_10 : decode cX6_addPiece 10 = .ok (.ireturn, 1) := by decide +kernel
theorem dX6_addPiece_11 : decode cX6_addPiece 11 = .ok (.aload_n 0, 1) := by decide +kernel
theorem dX6_addPiece_12 : decode cX6_addPiece 12 = .ok (.getfield 19, 3) := by decide +kernel
theorem dX6_addPiece_15 : decode cX6_addPiece 15 = .ok (.aload_n 0, 1) := by decide +kernel
theorem dX6_addPiece_16 : decode cX6_addPiece 16 = .ok (.getfield 50, 3) := by decide +kernel
theorem dX6_addPiece_19 : decode cX6_addPiece 19 = .ok (.aaload, 1) := by decide +kernel
theorem dX6_addPiece_20 : decode cX6_addPiece 20 = .ok (.astore_n 3, 1) := by decide +kernel
theorem dX6_addPiece_21 : decode cX6_addPiece 21 = .ok (.aload_n 3, 1) := by decide +kernel
theorem dX6_addPiece_22 : decode cX6_addPiece 22 = .ok (.aload_n 1, 1) := by decide +kernel
theorem dX6_addPiece_23 : decode cX6_addPiece 23 = .ok (.invokevirtual 53, 3) := by decide +kernel
theorem dX6_addPiece_26 : decode cX6_addPiece 26 = .ok (.aload_n 3, 1) := by decide +kernel
theorem dX6_addPiece_27 : decode cX6_addPiece 27 = .ok (.iload_n 2, 1) := by decide +kernel
theorem dX6_addPiece_28 : decode cX6_addPiece 28 = .ok (.putfield 116, 3) := by decide +kernel
theorem dX6_addPiece_31 : decode cX6_addPiece 31 = .ok (.aload_n 3, 1) := by decide +kernel
theorem dX6_addPiece_32 : decode cX6_addPiece 32 = .ok (.iconst 0, 1) := by decide +kernel
theorem dX6_addPiece_33 : decode cX6_addPiece 33 = .ok (.putfield 119, 3) := by decide +kernel
theorem dX6_addPiece_36 : decode cX6_addPiece 36 = .ok (.aload_n 3, 1) := by decide +kernel
theorem dX6_addPiece_37 : decode cX6_addPiece 37 = .ok (.iconst 0, 1) := by decide +kernel
theorem dX6_addPiece_38 : decode cX6_addPiece 38 = .ok (.putfield 123, 3) := by decide +kernel
theorem dX6_addPiece_41 : decode cX6_addPiece 41 = .ok (.aload_n 1, 1) := by decide +kernel
theorem dX6_addPiece_42 : decode cX6_addPiece 42 = .ok (.dup, 1) := by decide +kernel
theorem dX6_addPiece_43 : decode cX6_addPiece 43 = .ok (.getfield 116, 3) := by decide +kernel
theorem dX6_addPiece_46 : decode cX6_addPiece 46 = .ok (.iload_n 2, 1) := by decide +kernel
theorem dX6_addPiece_47 : decode cX6_addPiece 47 = .ok (.isub, 1) := by decide +kernel
theorem dX6_addPiece_48 : decode cX6_addPiece 48 = .ok (.putfield 116, 3) := by decide +kernel
theorem dX6_addPiece_51 : decode cX6_addPiece 51 = .ok (.aload_n 0, 1) := by decide +kernel
theorem dX6_addPiece_52 : decode cX6_addPiece 52 = .ok (.dup, 1) := by decide +kernel
theorem dX6_addPiece_53 : decode cX6_addPiece 53 = .ok (.getfield 50, 3) := by decide +kernel
theorem dX6_addPiece_56 : decode cX6_addPiece 56 = .ok (.iconst 1, 1) := by decide +kernel
theorem dX6_addPiece_57 : decode cX6_addPiece 57 = .ok (.iadd, 1) := by decide +kernel
theorem dX6_addPiece_58 : decode cX6_addPiece 58 = .ok (.putfield 50, 3) := by decide +kernel
theorem dX6_addPiece_61 : decode cX6_addPiece 61 = .ok (.aload_n 0, 1) := by decide +kernel
theorem dX6_addPiece_62 : decode cX6_addPiece 62 = .ok (.getfield 50, 3) := by decide +kernel
theorem dX6_addPiece_65 : decode cX6_addPiece 65 = .ok (.iconst 1, 1) := by decide +kernel
theorem dX6_addPiece_66 : decode cX6_addPiece 66 = .ok (.isub, 1) := by decide +kernel
theorem dX6_addPiece_67 : decode cX6_addPiece 67 = .ok (.ireturn, 1) := by decide +kernel
theorem lp_RX6_116 : gLp RX6 116 5 3 := ⟨(RX5, TX5, 10), rfl, by decide, wA_t (wt1 (List.mem_of_getElem? (i := 177) (by decide +kernel))) (by decide +kernel), rfl, rfl⟩
theorem lp_RX6_119 : gLp RX6 119 5 8 := ⟨(RX5, TX5, 10), rfl, by decide, wA_t (wt1 (List.mem_of_getElem? (i := 200) (by decide +kernel))) (by decide +kernel), rfl, rfl⟩
theorem lp_RX6_123 : gLp RX6 123 5 7 := ⟨(RX5, TX5, 10), rfl, by decide, wA_t (wt1 (List.mem_of_getElem? (i := 195) (by decide +kernel))) (by decide +kernel), rfl, rfl⟩
theorem lf_RX6_116 : gLf RX6 116 5 3 := ⟨(RX5, TX5, 10), rfl, by decide, wA_t (wt1 (List.mem_of_getElem? (i := 177) (by decide +kernel))) (by decide +kernel), rfl⟩
def rm_X6_addPiece : Room := { frames := 1, cells := 0, slots := 0, locals := 21 }
def f_X6_addPiece (τ : gτ) (x0 : Nat) (x1 : Nat) (x2 : Int32) (G : gG) : Option (Int32 × gG) :=
  if (gi G 6 5 x0) < (8 : Int32) then ((gr G 6 1 x0).bind fun a1 =>
  gchk (gIn (gi G 6 5 x0) (gn τ a1)) <| (gq G a1 (Int32.toNatClampNeg (gi G 6 5 x0))).bind fun a2 =>
  (f_X5_become a2 x1 G).bind fun G3 =>
  gLet (gsi G3 5 3 a2 x2) fun G4 =>
  gLet (gsi G4 5 8 a2 (0 : Int32)) fun G5 =>
  gLet (gsi G5 5 7 a2 (0 : Int32)) fun G6 =>
  gLet (gsi G6 5 3 x1 ((gi G6 5 3 x1) - x2)) fun G7 =>
  gLet (gsi G7 6 5 x0 ((gi G7 6 5 x0) + (1 : Int32))) fun G8 =>
  some ((gi G8 6 5 x0) - (1 : Int32), G8))
  else (some ((-1), G))
set_option maxHeartbeats 4000000 in
set_option maxRecDepth 100000 in
theorem c_X6_addPiece (l : Launch) (X : gX) (τ : gτ) (x0 : Nat) (x1 : Nat) (x2 : Int32) (G : gG) (h0 : gK τ x0 6) (h1 : gK τ x1 5) {r : Int32} {G' : gG} (h : f_X6_addPiece τ x0 x1 x2 G = some (r, G')) : gM l X τ yX6_addPiece cX6_addPiece 4 (some .int) rm_X6_addPiece [.ref x0, .ref x1, .int x2] G (some (.int r)) G' := by
  refine g_body (by decide +kernel) (Nat.le_of_ble_eq_true rfl) ?_
  intro p e s m args below meth c ls fx hr hw hl
  have fx : gFx X p s m args meth c cX6_addPiece 4 RX6 := fx
  have hl : lv_has ls 4 [(0, .ref x0), (1, .ref x1), (2, .int x2)] := hl
  have hok : gOk (f_X6_addPiece τ x0 x1 x2 G) (fun q => q = (r, G')) := ⟨_, h, rfl⟩
  unfold f_X6_addPiece at hok
  show W p l e rm_X6_addPiece s m args below meth c s.heap [] 0 0 (MQ below (gQ X τ (some (.int r)) G') args s 0 0 (gFree X)) _
  refine lv_aload_n fx.1 fx.2.1 dX6_addPiece_0 rfl (lv_at hl 0 rfl) ?_
  refine g_geti fx hw h0 lf_RX6_50 rfl dX6_addPiece_1 ?_
  refine lv_bipush (v := 8) fx.1 fx.2.1 dX6_addPiece_4 (by decide) ?_
  refine g_icmp_lt (tgt := 11) fx dX6_addPiece_6 (by decide) hok (fun hok => ?_) (fun hok => ?_)
  · refine lv_aload_n fx.1 fx.2.1 dX6_addPiece_11 rfl (lv_at hl 0 rfl) ?_
    refine g_getr fx hw h0 lf_RX6_19 rfl dX6_addPiece_12 hok (fun a1 h_a1 hok => ?_)
    refine lv_aload_n fx.1 fx.2.1 dX6_addPiece_15 rfl (lv_at hl 0 rfl) ?_
    refine g_geti fx hw h0 lf_RX6_50 rfl dX6_addPiece_16 ?_
    refine g_aald fx hw 15 3 h_a1 (by decide) (by decide) rfl (κ' := 5) rfl dX6_addPiece_19 hok (fun a2 h_a2 hok => ?_)
    refine lv_astore_n (lv' := [(3, .ref a2), (0, .ref x0), (1, .ref x1), (2, .int x2)]) fx.1 fx.2.1 dX6_addPiece_20 rfl hl (by decide) rfl (fun ls hl => ?_)
    refine lv_aload_n fx.1 fx.2.1 dX6_addPiece_21 rfl (lv_at hl 0 rfl) ?_
    refine lv_aload_n fx.1 fx.2.1 dX6_addPiece_22 rfl (lv_at hl 2 rfl) ?_
    obtain ⟨G3, hf, hok⟩ := gOk_bind hok
    refine g_callV0 (κ := 5) fx hw (c_X5_become l X τ a2 x1 G h_a2 h1 hf) lv_RX6_53 ⟨rfl, rfl⟩ rfl rfl h_a2 rfl hl.1 rfl ⟨Nat.le_of_ble_eq_true rfl, Nat.le_of_ble_eq_true rfl⟩ (Nat.le_of_ble_eq_true rfl) ⟨Nat.le_of_ble_eq_true rfl, Nat.le_of_ble_eq_true rfl⟩ dX6_addPiece_23 (fun H locs hw => ?_)
    refine lv_aload_n fx.1 fx.2.1 dX6_addPiece_26 rfl (lv_at hl 0 rfl) ?_
    refine lv_iload_n fx.1 fx.2.1 dX6_addPiece_27 rfl (lv_at hl 3 rfl) ?_
    refine g_puti fx hw h_a2 lp_RX6_116 rfl rfl dX6_addPiece_28 hok (fun G4 H locs hw hok => ?_)
    refine lv_aload_n fx.1 fx.2.1 dX6_addPiece_31 rfl (lv_at hl 0 rfl) ?_
    refine lv_iconst (v := 0) fx.1 fx.2.1 dX6_addPiece_32 (by decide) ?_
    refine g_putz fx hw h_a2 lp_RX6_119 rfl rfl (by decide) dX6_addPiece_33 hok (fun G5 H locs hw hok => ?_)
    refine lv_aload_n fx.1 fx.2.1 dX6_addPiece_36 rfl (lv_at hl 0 rfl) ?_
    refine lv_iconst (v := 0) fx.1 fx.2.1 dX6_addPiece_37 (by decide) ?_
    refine g_puti fx hw h_a2 lp_RX6_123 rfl rfl dX6_addPiece_38 hok (fun G6 H locs hw hok => ?_)
    refine lv_aload_n fx.1 fx.2.1 dX6_addPiece_41 rfl (lv_at hl 2 rfl) ?_
    refine lv_dup fx.1 fx.2.1 dX6_addPiece_42 rfl ?_
    refine g_geti fx hw h1 lf_RX6_116 rfl dX6_addPiece_43 ?_
    refine lv_iload_n fx.1 fx.2.1 dX6_addPiece_46 rfl (lv_at hl 3 rfl) ?_
    refine lv_isub fx.1 fx.2.1 dX6_addPiece_47 ?_
    refine g_puti fx hw h1 lp_RX6_116 rfl rfl dX6_addPiece_48 hok (fun G7 H locs hw hok => ?_)
    refine lv_aload_n fx.1 fx.2.1 dX6_addPiece_51 rfl (lv_at hl 1 rfl) ?_
    refine lv_dup fx.1 fx.2.1 dX6_addPiece_52 rfl ?_
    refine g_geti fx hw h0 lf_RX6_50 rfl dX6_addPiece_53 ?_
    refine lv_iconst (v := 1) fx.1 fx.2.1 dX6_addPiece_56 (by decide) ?_
    refine lv_iadd fx.1 fx.2.1 dX6_addPiece_57 ?_
    refine g_puti fx hw h0 lp_RX6_50 rfl rfl dX6_addPiece_58 hok (fun G8 H locs hw hok => ?_)
    refine lv_aload_n fx.1 fx.2.1 dX6_addPiece_61 rfl (lv_at hl 1 rfl) ?_
    refine g_geti fx hw h0 lf_RX6_50 rfl dX6_addPiece_62 ?_
    refine lv_iconst (v := 1) fx.1 fx.2.1 dX6_addPiece_65 (by decide) ?_
    refine lv_isub fx.1 fx.2.1 dX6_addPiece_66 ?_
    cases gOk_some hok
    exact g_iret fx hw hr dX6_addPiece_67
  · refine lv_iconst (v := (-1)) fx.1 fx.2.1 dX6_addPiece_9 (by decide) ?_
    cases gOk_some hok
    exact g_iret fx hw hr dX6_addPiece_10
theorem dX6_removeRope_0 : decode cX6_removeRope 0 = .ok (.iload_n 1, 1) := by decide +kernel
theorem dX6_removeRope_1 : decode cX6_removeRope 1 = .ok (.istore_n 2, 1) := by decide +kernel
theorem dX6_removeRope_2 : decode cX6_removeRope 2 = .ok (.iload_n 2, 1) := by decide +kernel
theorem dX6_removeRope_3 : decode cX6_removeRope 3 = .ok (.ifCond .lt 36, 3) := by decide +kernel
theorem dX6_removeRope_6 : decode cX6_removeRope 6 = .ok (.iload_n 2, 1) := by decide +kernel
theorem dX6_removeRope_7 : decode cX6_removeRope 7 = .ok (.iconst 1, 1) := by decide +kernel
theorem dX6_removeRope_8 : decode cX6_removeRope 8 = .ok (.iadd, 1) := by decide +kernel
theorem dX6_removeRope_9 : decode cX6_removeRope 9 = .ok (.aload_n 0, 1) := by decide +kernel
theorem dX6_removeRope_10 : decode cX6_removeRope 10 = .ok (.getfield 50, 3) := by decide +kernel
theorem dX6_removeRope_13 : decode cX6_removeRope 13 = .ok (.if_icmp .ge 26, 3) := by decide +kernel
theorem dX6_removeRope_16 : decode cX6_removeRope 16 = .ok (.aload_n 0, 1) := by decide +kernel
theorem dX6_removeRope_17 : decode cX6_removeRope 17 = .ok (.getfield 19, 3) := by decide +kernel
theorem dX6_removeRope_20 : decode cX6_removeRope 20 = .ok (.iload_n 2, 1) := by decide +kernel
theorem dX6_removeRope_21 : decode cX6_removeRope 21 = .ok (.aaload, 1) := by decide +kernel
theorem dX6_removeRope_22 : decode cX6_removeRope 22 = .ok (.aload_n 0, 1) := by decide +kernel
theorem dX6_removeRope_23 : decode cX6_removeRope 23 = .ok (.getfield 19, 3) := by decide +kernel
theorem dX6_removeRope_26 : decode cX6_removeRope 26 = .ok (.iload_n 2, 1) := by decide +kernel
theorem dX6_removeRope_27 : decode cX6_removeRope 27 = .ok (.iconst 1, 1) := by decide +kernel
theorem dX6_removeRope_28 : decode cX6_removeRope 28 = .ok (.iadd, 1) := by decide +kernel
theorem dX6_removeRope_29 : decode cX6_removeRope 29 = .ok (.aaload, 1) := by decide +kernel
theorem dX6_removeRope_30 : decode cX6_removeRope 30 = .ok (.invokevirtual 53, 3) := by decide +kernel
theorem dX6_removeRope_33 : decode cX6_removeRope 33 = .ok (.iinc 2 1, 3) := by decide +kernel
theorem dX6_removeRope_36 : decode cX6_removeRope 36 = .ok (.goto (-34), 3) := by decide +kernel
theorem dX6_removeRope_39 : decode cX6_removeRope 39 = .ok (.aload_n 0, 1) := by decide +kernel
theorem dX6_removeRope_40 : decode cX6_removeRope 40 = .ok (.dup, 1) := by decide +kernel
theorem dX6_removeRope_41 : decode cX6_removeRope 41 = .ok (.getfield 50, 3) := by decide +kernel
theorem dX6_removeRope_44 : decode cX6_removeRope 44 = .ok (.iconst 1, 1) := by decide +kernel
theorem dX6_removeRope_45 : decode cX6_removeRope 45 = .ok (.isub, 1) := by decide +kernel
theorem dX6_removeRope_46 : decode cX6_removeRope 46 = .ok (.putfield 50, 3) := by decide +kernel
theorem dX6_removeRope_49 : decode cX6_removeRope 49 = .ok (.return_, 1) := by decide +kernel
def rm_X6_removeRope : Room := { frames := 1, cells := 0, slots := 0, locals := 21 }
def b_X6_removeRope_2 (τ : gτ) (n : Nat) (x0 : Nat) (x2 : Int32) (G : gG) : Option ((Int32 × gG) ⊕ ((gG))) :=
  if x2 < 0 then (some (.inr G))
  else (if (gi G 6 5 x0) ≤ (x2 + (1 : Int32)) then (some (.inr G))
  else ((gr G 6 1 x0).bind fun a1 =>
  gchk (gIn x2 (gn τ a1)) <| (gq G a1 (Int32.toNatClampNeg x2)).bind fun a2 =>
  (gr G 6 1 x0).bind fun a3 =>
  gchk (gIn (x2 + (1 : Int32)) (gn τ a3)) <| (gq G a3 (Int32.toNatClampNeg (x2 + (1 : Int32)))).bind fun a4 =>
  (f_X5_become a2 a4 G).bind fun G5 =>
  gLet (x2 + 1) fun v6 =>
  some (.inl (v6, G5))))
def l_X6_removeRope_2 (τ : gτ) (n : Nat) (x0 : Nat) (x2 : Int32) (G : gG) : Option ((gG)) :=
  gIter (fun (q : Int32 × gG) => b_X6_removeRope_2 τ n x0 q.1 q.2) n (x2, G)
def k_X6_removeRope_39 (τ : gτ) (n : Nat) (x0 : Nat)  (G : gG) : Option (gG) :=
  gLet (gsi G 6 5 x0 ((gi G 6 5 x0) - (1 : Int32))) fun G8 =>
  some G8
def f_X6_removeRope (τ : gτ) (n : Nat) (x0 : Nat) (x1 : Int32) (G : gG) : Option (gG) :=
  (l_X6_removeRope_2 τ n x0 x1 G).bind fun q => gLet q fun G7 => 
  k_X6_removeRope_39 τ n x0  G7
set_option maxHeartbeats 4000000 in
set_option maxRecDepth 100000 in
theorem w_b_X6_removeRope_2 {X : gX} {τ : gτ} {p : Program} {l : Launch} {e : Env} {s : State} {m : MethodId} {args : Array Value} {below : List Frame} {meth : Method} {c : Code} (fx : gFx X p s m args meth c cX6_removeRope 3 RX6) (n : Nat) (x0 : Nat) (x2 : Int32) (h0 : gK τ x0 6) {Q : State → Prop} {K : ((Int32 × gG) ⊕ ((gG))) → Prop} {G : gG} {H : Heap} {locs : List Loc} {ls : Array Slot} (hw : gHw X τ G H locs) (hl : lv_has ls 3 [(0, .ref x0), (2, .int x2)]) (hok : gOk (b_X6_removeRope_2 τ n x0 x2 G) K) (hc : ∀ (y2 : Int32) (G : gG) (H : Heap) (locs : List Loc) (ls : Array Slot), gHw X τ G H locs → lv_has ls 3 [(0, .ref x0), (2, .int y2)] → K (.inl (y2, G)) → W p l e rm_X6_removeRope s m args below meth c H locs 0 0 Q (F0 m 2 ls [])) (hx0 : ∀ (G : gG) (H : Heap) (locs : List Loc) (ls : Array Slot), gHw X τ G H locs → lv_has ls 3 [(0, .ref x0)] → K (.inr G) → W p l e rm_X6_removeRope s m args below meth c H locs 0 0 Q (F0 m 39 ls [])) : W p l e rm_X6_removeRope s m args below meth c H locs 0 0 Q (F0 m 2 ls []) := by
  unfold b_X6_removeRope_2 at hok
  refine lv_iload_n fx.1 fx.2.1 dX6_removeRope_2 rfl (lv_at hl 1 rfl) ?_
  refine g_if_lt (tgt := 39) fx dX6_removeRope_3 (by decide) hok (fun hok => ?_) (fun hok => ?_)
  · exact hx0  G _ _ _  hw (lv_sub hl [0] rfl) (gOk_some hok)
  · refine lv_iload_n fx.1 fx.2.1 dX6_removeRope_6 rfl (lv_at hl 1 rfl) ?_
    refine lv_iconst (v := 1) fx.1 fx.2.1 dX6_removeRope_7 (by decide) ?_
    refine lv_iadd fx.1 fx.2.1 dX6_removeRope_8 ?_
    refine lv_aload_n fx.1 fx.2.1 dX6_removeRope_9 rfl (lv_at hl 0 rfl) ?_
    refine g_geti fx hw h0 lf_RX6_50 rfl dX6_removeRope_10 ?_
    refine g_icmp_ge (tgt := 39) fx dX6_removeRope_13 (by decide) hok (fun hok => ?_) (fun hok => ?_)
    · exact hx0  G _ _ _  hw (lv_sub hl [0] rfl) (gOk_some hok)
    · refine lv_aload_n fx.1 fx.2.1 dX6_removeRope_16 rfl (lv_at hl 0 rfl) ?_
      refine g_getr fx hw h0 lf_RX6_19 rfl dX6_removeRope_17 hok (fun a1 h_a1 hok => ?_)
      refine lv_iload_n fx.1 fx.2.1 dX6_removeRope_20 rfl (lv_at hl 1 rfl) ?_
      refine g_aald fx hw 15 3 h_a1 (by decide) (by decide) rfl (κ' := 5) rfl dX6_removeRope_21 hok (fun a2 h_a2 hok => ?_)
      refine lv_aload_n fx.1 fx.2.1 dX6_removeRope_22 rfl (lv_at hl 0 rfl) ?_
      refine g_getr fx hw h0 lf_RX6_19 rfl dX6_removeRope_23 hok (fun a3 h_a3 hok => ?_)
      refine lv_iload_n fx.1 fx.2.1 dX6_removeRope_26 rfl (lv_at hl 1 rfl) ?_
      refine lv_iconst (v := 1) fx.1 fx.2.1 dX6_removeRope_27 (by decide) ?_
      refine lv_iadd fx.1 fx.2.1 dX6_removeRope_28 ?_
      refine g_aald fx hw 15 3 h_a3 (by decide) (by decide) rfl (κ' := 5) rfl dX6_removeRope_29 hok (fun a4 h_a4 hok => ?_)
      obtain ⟨G5, hf, hok⟩ := gOk_bind hok
      refine g_callV0 (κ := 5) fx hw (c_X5_become l X τ a2 a4 G h_a2 h_a4 hf) lv_RX6_53 ⟨rfl, rfl⟩ rfl rfl h_a2 rfl hl.1 rfl ⟨Nat.le_of_ble_eq_true rfl, Nat.le_of_ble_eq_true rfl⟩ (Nat.le_of_ble_eq_true rfl) ⟨Nat.le_of_ble_eq_true rfl, Nat.le_of_ble_eq_true rfl⟩ dX6_removeRope_30 (fun H locs hw => ?_)
      obtain ⟨v6, e_v6, hok⟩ := gOk_let hok
      refine lv_iinc (v := v6) (lv' := [(2, .int v6), (0, .ref x0)]) fx.1 fx.2.1 dX6_removeRope_33 hl (k := 1) rfl (by rw [e_v6]; rfl) (by decide) rfl (fun ls hl => ?_)
      refine lv_goto (tgt := 2) fx.1 fx.2.1 dX6_removeRope_36 (by decide) ?_
      exact hc v6 G5 _ _ _  hw (lv_sub hl [1, 0] rfl) (gOk_some hok)
theorem w_l_X6_removeRope_2 {X : gX} {τ : gτ} {p : Program} {l : Launch} {e : Env} {s : State} {m : MethodId} {args : Array Value} {below : List Frame} {meth : Method} {c : Code} (fx : gFx X p s m args meth c cX6_removeRope 3 RX6) (n : Nat) (x0 : Nat) (h0 : gK τ x0 6) {Q : State → Prop} {K : ((gG)) → Prop} (hx0 : ∀ (G : gG) (H : Heap) (locs : List Loc) (ls : Array Slot), gHw X τ G H locs → lv_has ls 3 [(0, .ref x0)] → K G → W p l e rm_X6_removeRope s m args below meth c H locs 0 0 Q (F0 m 39 ls [])) : ∀ (k : Nat) (x2 : Int32) (G : gG) (H : Heap) (locs : List Loc) (ls : Array Slot), gHw X τ G H locs → lv_has ls 3 [(0, .ref x0), (2, .int x2)] → gOk (gIter (fun (q : Int32 × gG) => b_X6_removeRope_2 τ n x0 q.1 q.2) k (x2, G)) K → W p l e rm_X6_removeRope s m args below meth c H locs 0 0 Q (F0 m 2 ls []) := by
  intro k
  induction k with
  | zero =>
    intro x2 G H locs ls hw hl hok
    exact gOk_iter0 hok
  | succ k hc =>
    intro x2 G H locs ls hw hl hok
    exact w_b_X6_removeRope_2 fx n x0 x2 h0 hw hl (gOk_iter hok) hc hx0
set_option maxHeartbeats 4000000 in
set_option maxRecDepth 100000 in
theorem w_X6_removeRope_39 {X : gX} {τ : gτ} {p : Program} {l : Launch} {e : Env} {s : State} {m : MethodId} {args : Array Value} {below : List Frame} {meth : Method} {c : Code} (fx : gFx X p s m args meth c cX6_removeRope 3 RX6) (n : Nat) (x0 : Nat)  (h0 : gK τ x0 6)  (hr : meth.sig.returnType = none) {G' : gG} {G : gG} {H : Heap} {locs : List Loc} {ls : Array Slot} (hw : gHw X τ G H locs) (hl : lv_has ls 3 [(0, .ref x0)]) (hok : gOk (k_X6_removeRope_39 τ n x0  G) (fun q => q = G'))  : W p l e rm_X6_removeRope s m args below meth c H locs 0 0 (MQ below (gQ X τ none G') args s 0 0 (gFree X)) (F0 m 39 ls []) := by
  unfold k_X6_removeRope_39 at hok
  refine lv_aload_n fx.1 fx.2.1 dX6_removeRope_39 rfl (lv_at hl 0 rfl) ?_
  refine lv_dup fx.1 fx.2.1 dX6_removeRope_40 rfl ?_
  refine g_geti fx hw h0 lf_RX6_50 rfl dX6_removeRope_41 ?_
  refine lv_iconst (v := 1) fx.1 fx.2.1 dX6_removeRope_44 (by decide) ?_
  refine lv_isub fx.1 fx.2.1 dX6_removeRope_45 ?_
  refine g_puti fx hw h0 lp_RX6_50 rfl rfl dX6_removeRope_46 hok (fun G8 H locs hw hok => ?_)
  cases gOk_some hok
  exact g_vret fx hw hr dX6_removeRope_49
set_option maxHeartbeats 4000000 in
set_option maxRecDepth 100000 in
theorem c_X6_removeRope (l : Launch) (X : gX) (τ : gτ) (n : Nat) (x0 : Nat) (x1 : Int32) (G : gG) (h0 : gK τ x0 6) {G' : gG} (h : f_X6_removeRope τ n x0 x1 G = some G') : gM l X τ yX6_removeRope cX6_removeRope 3 none rm_X6_removeRope [.ref x0, .int x1] G none G' := by
  refine g_body (by decide +kernel) (Nat.le_of_ble_eq_true rfl) ?_
  intro p e s m args below meth c ls fx hr hw hl
  have fx : gFx X p s m args meth c cX6_removeRope 3 RX6 := fx
  have hl : lv_has ls 3 [(0, .ref x0), (1, .int x1)] := hl
  have hok : gOk (f_X6_removeRope τ n x0 x1 G) (fun q => q = G') := ⟨_, h, rfl⟩
  unfold f_X6_removeRope at hok
  show W p l e rm_X6_removeRope s m args below meth c s.heap [] 0 0 (MQ below (gQ X τ none G') args s 0 0 (gFree X)) _
  refine lv_iload_n fx.1 fx.2.1 dX6_removeRope_0 rfl (lv_at hl 1 rfl) ?_
  refine lv_istore_n (lv' := [(2, .int x1), (0, .ref x0), (1, .int x1)]) fx.1 fx.2.1 dX6_removeRope_1 rfl hl (by decide) rfl (fun ls hl => ?_)
  refine w_l_X6_removeRope_2 fx n x0 h0 ?_ n x1 G _ _ _  hw (lv_sub hl [1, 0] rfl) (gOk_bindK hok)
  intro G7 H locs ls hw hl hok
  have hok : gOk (ρ := gG) (k_X6_removeRope_39 τ n x0  G7) _ := hok
  exact w_X6_removeRope_39 fx n x0  h0  hr hw (lv_sub hl [0] rfl) hok
theorem dX6_twinsOf_0 : decode cX6_twinsOf 0 = .ok (.iconst 0, 1) := by decide +kernel
theorem dX6_twinsOf_1 : decode cX6_twinsOf 1 = .ok (.istore_n 2, 1) := by decide +kernel
theorem dX6_twinsOf_2 : decode cX6_twinsOf 2 = .ok (.iconst 0, 1) := by decide +kernel
theorem dX6_twinsOf_3 : decode cX6_twinsOf 3 = .ok (.istore_n 3, 1) := by decide +kernel
theorem dX6_twinsOf_4 : decode cX6_twinsOf 4 = .ok (.iload_n 3, 1) := by decide +kernel
theorem dX6_twinsOf_5 : decode cX6_twinsOf 5 = .ok (.aload_n 0, 1) := by decide +kernel
theorem dX6_twinsOf_6 : decode cX6_twinsOf 6 = .ok (.getfield 50, 3) := by decide +kernel
theorem dX6_twinsOf_9 : decode cX6_twinsOf 9 = .ok (.if_icmp .ge 91, 3) := by decide +kernel
theorem dX6_twinsOf_12 : decode cX6_twinsOf 12 = .ok (.aload_n 0, 1) := by decide +kernel
theorem dX6_twinsOf_13 : decode cX6_twinsOf 13 = .ok (.getfield 19, 3) := by decide +kernel
theorem dX6_twinsOf_16 : decode cX6_twinsOf 16 = .ok (.iload_n 3, 1) := by decide +kernel
theorem dX6_twinsOf_17 : decode cX6_twinsOf 17 = .ok (.aaload, 1) := by decide +kernel
theorem dX6_twinsOf_18 : decode cX6_twinsOf 18 = .ok (.astore 4, 2) := by decide +kernel
theorem dX6_twinsOf_20 : decode cX6_twinsOf 20 = .ok (.aload 4, 2) := by decide +kernel
theorem dX6_twinsOf_22 : decode cX6_twinsOf 22 = .ok (.aload_n 0, 1) := by decide +kernel
theorem dX6_twinsOf_23 : decode cX6_twinsOf 23 = .ok (.getfield 19, 3) := by decide +kernel
theorem dX6_twinsOf_26 : decode cX6_twinsOf 26 = .ok (.iload_n 1, 1) := by decide +kernel
theorem dX6_twinsOf_27 : decode cX6_twinsOf 27 = .ok (.aaload, 1) := by decide +kernel
theorem dX6_twinsOf_28 : decode cX6_twinsOf 28 = .ok (.getfield 126, 3) := by decide +kernel
theorem dX6_twinsOf_31 : decode cX6_twinsOf 31 = .ok (.invokevirtual 108, 3) := by decide +kernel
theorem dX6_twinsOf_34 : decode cX6_twinsOf 34 = .ok (.ifCond .eq 41, 3) := by decide +kernel
theorem dX6_twinsOf_37 : decode cX6_twinsOf 37 = .ok (.aload 4, 2) := by decide +kernel
theorem dX6_twinsOf_39 : decode cX6_twinsOf 39 = .ok (.aload_n 0, 1) := by decide +kernel
theorem dX6_twinsOf_40 : decode cX6_twinsOf 40 = .ok (.getfield 19, 3) := by decide +kernel
theorem dX6_twinsOf_43 : decode cX6_twinsOf 43 = .ok (.iload_n 1, 1) := by decide +kernel
theorem dX6_twinsOf_44 : decode cX6_twinsOf 44 = .ok (.aaload, 1) := by decide +kernel
theorem dX6_twinsOf_45 : decode cX6_twinsOf 45 = .ok (.getfield 129, 3) := by decide +kernel
theorem dX6_twinsOf_48 : decode cX6_twinsOf 48 = .ok (.invokevirtual 108, 3) := by decide +kernel
theorem dX6_twinsOf_51 : decode cX6_twinsOf 51 = .ok (.ifCond .eq 24, 3) := by decide +kernel
theorem dX6_twinsOf_54 : decode cX6_twinsOf 54 = .ok (.aload 4, 2) := by decide +kernel
theorem dX6_twinsOf_56 : decode cX6_twinsOf 56 = .ok (.aload_n 0, 1) := by decide +kernel
theorem dX6_twinsOf_57 : decode cX6_twinsOf 57 = .ok (.getfield 19, 3) := by decide +kernel
theorem dX6_twinsOf_60 : decode cX6_twinsOf 60 = .ok (.iload_n 1, 1) := by decide +kernel
theorem dX6_twinsOf_61 : decode cX6_twinsOf 61 = .ok (.aaload, 1) := by decide +kernel
theorem dX6_twinsOf_62 : decode cX6_twinsOf 62 = .ok (.getfield 132, 3) := by decide +kernel
theorem dX6_twinsOf_65 : decode cX6_twinsOf 65 = .ok (.invokevirtual 108, 3) := by decide +kernel
theorem dX6_twinsOf_68 : decode cX6_twinsOf 68 = .ok (.ifCond .eq 7, 3) := by decide +kernel
theorem dX6_twinsOf_71 : decode cX6_twinsOf 71 = .ok (.iconst 1, 1) := by decide +kernel
theorem dX6_twinsOf_72 : decode cX6_twinsOf 72 = .ok (.goto 4, 3) := by decide +kernel
theorem dX6_twinsOf_75 : decode cX6_twinsOf 75 = .ok (.iconst 0, 1) := by decide +kernel
theorem dX6_twinsOf_76 : decode cX6_twinsOf 76 = .ok (.istore 5, 2) := by decide +kernel
theorem dX6_twinsOf_78 : decode cX6_twinsOf 78 = .ok (.iload 5, 2) := by decide +kernel
theorem dX6_twinsOf_80 : decode cX6_twinsOf 80 = .ok (.ifCond .eq 14, 3) := by decide +kernel
theorem dX6_twinsOf_83 : decode cX6_twinsOf 83 = .ok (.iload_n 3, 1) := by decide +kernel
theorem dX6_twinsOf_84 : decode cX6_twinsOf 84 = .ok (.iload_n 1, 1) := by decide +kernel
theorem dX6_twinsOf_85 : decode cX6_twinsOf 85 = .ok (.if_icmp .eq 9, 3) := by decide +kernel
theorem dX6_twinsOf_88 : decode cX6_twinsOf 88 = .ok (.iload_n 2, 1) := by decide +kernel
theorem dX6_twinsOf_89 : decode cX6_twinsOf 89 = .ok (.iconst 1, 1) := by decide +kernel
theorem dX6_twinsOf_90 : decode cX6_twinsOf 90 = .ok (.iload_n 3, 1) := by decide +kernel
theorem dX6_twinsOf_91 : decode cX6_twinsOf 91 = .ok (.ishl, 1) := by decide +kernel
theorem dX6_twinsOf_92 : decode cX6_twinsOf 92 = .ok (.ior, 1) := by decide +kernel
theorem dX6_twinsOf_93 : decode cX6_twinsOf 93 = .ok (.istore_n 2, 1) := by decide +kernel
theorem dX6_twinsOf_94 : decode cX6_twinsOf 94 = .ok (.iinc 3 1, 3) := by decide +kernel
theorem dX6_twinsOf_97 : decode cX6_twinsOf 97 = .ok (.goto (-93), 3) := by decide +kernel
theorem dX6_twinsOf_100 : decode cX6_twinsOf 100 = .ok (.iload_n 2, 1) := by decide +kernel
theorem dX6_twinsOf_101 : decode cX6_twinsOf 101 = .ok (.ireturn, 1) := by decide +kernel
theorem lf_RX6_126 : gLf RX6 126 5 0 := ⟨(RX5, TX5, 10), rfl, by decide, wA_t (wt1 (List.mem_of_getElem? (i := 165) (by decide +kernel))) (by decide +kernel), rfl⟩
theorem lf_RX6_129 : gLf RX6 129 5 1 := ⟨(RX5, TX5, 10), rfl, by decide, wA_t (wt1 (List.mem_of_getElem? (i := 169) (by decide +kernel))) (by decide +kernel), rfl⟩
theorem lf_RX6_132 : gLf RX6 132 5 2 := ⟨(RX5, TX5, 10), rfl, by decide, wA_t (wt1 (List.mem_of_getElem? (i := 173) (by decide +kernel))) (by decide +kernel), rfl⟩
def rm_X6_twinsOf : Room := { frames := 1, cells := 0, slots := 0, locals := 21 }
def k_X6_twinsOf_76 (τ : gτ) (n : Nat) (x0 : Nat) (x1 : Int32) (x2 : Int32) (x3 : Int32) (s0 : Int32) (G : gG) : Option ((Int32 × Int32) ⊕ ((Int32))) :=
  if s0 = 0 then (gLet (x3 + 1) fun v6 =>
  some (.inl (x2, v6)))
  else (if x3 = x1 then (gLet (x3 + 1) fun v7 =>
  some (.inl (x2, v7)))
  else (gLet (x2 ||| ((1 : Int32) <<< (x3 &&& 31))) fun v8 =>
  gLet (x3 + 1) fun v9 =>
  some (.inl (v8, v9))))
def k_X6_twinsOf_75 (τ : gτ) (n : Nat) (x0 : Nat) (x1 : Int32) (x2 : Int32) (x3 : Int32)  (G : gG) : Option ((Int32 × Int32) ⊕ ((Int32))) :=
  k_X6_twinsOf_76 τ n x0 x1 x2 x3 (0 : Int32) G
def b_X6_twinsOf_4 (τ : gτ) (n : Nat) (x0 : Nat) (x1 : Int32) (x2 : Int32) (x3 : Int32) (G : gG) : Option ((Int32 × Int32) ⊕ ((Int32))) :=
  if (gi G 6 5 x0) ≤ x3 then (some (.inr x2))
  else ((gr G 6 1 x0).bind fun a1 =>
  gchk (gIn x3 (gn τ a1)) <| (gq G a1 (Int32.toNatClampNeg x3)).bind fun a2 =>
  (gr G 6 1 x0).bind fun a3 =>
  gchk (gIn x1 (gn τ a3)) <| (gq G a3 (Int32.toNatClampNeg x1)).bind fun a4 =>
  (f_X5_isOf a2 (gi G 5 0 a4) G).bind fun v5 =>
  if v5 = 0 then (k_X6_twinsOf_75 τ n x0 x1 x2 x3  G)
  else ((gr G 6 1 x0).bind fun a10 =>
  gchk (gIn x1 (gn τ a10)) <| (gq G a10 (Int32.toNatClampNeg x1)).bind fun a11 =>
  (f_X5_isOf a2 (gi G 5 1 a11) G).bind fun v12 =>
  if v12 = 0 then (k_X6_twinsOf_75 τ n x0 x1 x2 x3  G)
  else ((gr G 6 1 x0).bind fun a13 =>
  gchk (gIn x1 (gn τ a13)) <| (gq G a13 (Int32.toNatClampNeg x1)).bind fun a14 =>
  (f_X5_isOf a2 (gi G 5 2 a14) G).bind fun v15 =>
  if v15 = 0 then (k_X6_twinsOf_75 τ n x0 x1 x2 x3  G)
  else (k_X6_twinsOf_76 τ n x0 x1 x2 x3 (1 : Int32) G))))
def l_X6_twinsOf_4 (τ : gτ) (n : Nat) (x0 : Nat) (x1 : Int32) (x2 : Int32) (x3 : Int32) (G : gG) : Option ((Int32)) :=
  gIter (fun (q : Int32 × Int32) => b_X6_twinsOf_4 τ n x0 x1 q.1 q.2 G) n (x2, x3)
def f_X6_twinsOf (τ : gτ) (n : Nat) (x0 : Nat) (x1 : Int32) (G : gG) : Option (Int32) :=
  (l_X6_twinsOf_4 τ n x0 x1 (0 : Int32) (0 : Int32) G).bind fun q => gLet q fun z16 => 
  some (z16)
set_option maxHeartbeats 4000000 in
set_option maxRecDepth 100000 in
theorem w_X6_twinsOf_76 {X : gX} {τ : gτ} {p : Program} {l : Launch} {e : Env} {s : State} {m : MethodId} {args : Array Value} {below : List Frame} {meth : Method} {c : Code} (fx : gFx X p s m args meth c cX6_twinsOf 6 RX6) (n : Nat) (x0 : Nat) (x1 : Int32) (x2 : Int32) (x3 : Int32) (s0 : Int32) (h0 : gK τ x0 6)  {Q : State → Prop} {K : ((Int32 × Int32) ⊕ ((Int32))) → Prop} {G : gG} {H : Heap} {locs : List Loc} {ls : Array Slot} (hw : gHw X τ G H locs) (hl : lv_has ls 6 [(0, .ref x0), (1, .int x1), (2, .int x2), (3, .int x3)]) (hok : gOk (k_X6_twinsOf_76 τ n x0 x1 x2 x3 s0 G) K) (hc : ∀ (y2 : Int32) (y3 : Int32) (H : Heap) (locs : List Loc) (ls : Array Slot), gHw X τ G H locs → lv_has ls 6 [(0, .ref x0), (1, .int x1), (2, .int y2), (3, .int y3)] → K (.inl (y2, y3)) → W p l e rm_X6_twinsOf s m args below meth c H locs 0 0 Q (F0 m 4 ls [])) (hx0 : ∀ (y2 : Int32) (H : Heap) (locs : List Loc) (ls : Array Slot), gHw X τ G H locs → lv_has ls 6 [(2, .int y2)] → K (.inr y2) → W p l e rm_X6_twinsOf s m args below meth c H locs 0 0 Q (F0 m 100 ls [])) : W p l e rm_X6_twinsOf s m args below meth c H locs 0 0 Q (F0 m 76 ls [.int s0]) := by
  unfold k_X6_twinsOf_76 at hok
  refine lv_istore (lv' := [(5, .int s0), (0, .ref x0), (1, .int x1), (2, .int x2), (3, .int x3)]) fx.1 fx.2.1 dX6_twinsOf_76 hl (by decide) rfl (fun ls hl => ?_)
  refine lv_iload fx.1 fx.2.1 dX6_twinsOf_78 (lv_at hl 0 rfl) ?_
  refine g_if_eq (tgt := 94) fx dX6_twinsOf_80 (by decide) hok (fun hok => ?_) (fun hok => ?_)
  · obtain ⟨v6, e_v6, hok⟩ := gOk_let hok
    refine lv_iinc (v := v6) (lv' := [(3, .int v6), (5, .int s0), (0, .ref x0), (1, .int x1), (2, .int x2)]) fx.1 fx.2.1 dX6_twinsOf_94 hl (k := 4) rfl (by rw [e_v6]; rfl) (by decide) rfl (fun ls hl => ?_)
    refine lv_goto (tgt := 4) fx.1 fx.2.1 dX6_twinsOf_97 (by decide) ?_
    exact hc x2 v6  _ _ _  hw (lv_sub hl [2, 3, 4, 0] rfl) (gOk_some hok)
  · refine lv_iload_n fx.1 fx.2.1 dX6_twinsOf_83 rfl (lv_at hl 4 rfl) ?_
    refine lv_iload_n fx.1 fx.2.1 dX6_twinsOf_84 rfl (lv_at hl 2 rfl) ?_
    refine g_icmp_eq (tgt := 94) fx dX6_twinsOf_85 (by decide) hok (fun hok => ?_) (fun hok => ?_)
    · obtain ⟨v7, e_v7, hok⟩ := gOk_let hok
      refine lv_iinc (v := v7) (lv' := [(3, .int v7), (5, .int s0), (0, .ref x0), (1, .int x1), (2, .int x2)]) fx.1 fx.2.1 dX6_twinsOf_94 hl (k := 4) rfl (by rw [e_v7]; rfl) (by decide) rfl (fun ls hl => ?_)
      refine lv_goto (tgt := 4) fx.1 fx.2.1 dX6_twinsOf_97 (by decide) ?_
      exact hc x2 v7  _ _ _  hw (lv_sub hl [2, 3, 4, 0] rfl) (gOk_some hok)
    · refine lv_iload_n fx.1 fx.2.1 dX6_twinsOf_88 rfl (lv_at hl 3 rfl) ?_
      refine lv_iconst (v := 1) fx.1 fx.2.1 dX6_twinsOf_89 (by decide) ?_
      refine lv_iload_n fx.1 fx.2.1 dX6_twinsOf_90 rfl (lv_at hl 4 rfl) ?_
      refine lv_ishl fx.1 fx.2.1 dX6_twinsOf_91 ?_
      refine lv_ior fx.1 fx.2.1 dX6_twinsOf_92 ?_
      refine g_leti hok (fun v8 hok => ?_)
      refine lv_istore_n (lv' := [(2, .int v8), (5, .int s0), (0, .ref x0), (1, .int x1), (3, .int x3)]) fx.1 fx.2.1 dX6_twinsOf_93 rfl hl (by decide) rfl (fun ls hl => ?_)
      obtain ⟨v9, e_v9, hok⟩ := gOk_let hok
      refine lv_iinc (v := v9) (lv' := [(3, .int v9), (2, .int v8), (5, .int s0), (0, .ref x0), (1, .int x1)]) fx.1 fx.2.1 dX6_twinsOf_94 hl (k := 4) rfl (by rw [e_v9]; rfl) (by decide) rfl (fun ls hl => ?_)
      refine lv_goto (tgt := 4) fx.1 fx.2.1 dX6_twinsOf_97 (by decide) ?_
      exact hc v8 v9  _ _ _  hw (lv_sub hl [3, 4, 1, 0] rfl) (gOk_some hok)
set_option maxHeartbeats 4000000 in
set_option maxRecDepth 100000 in
theorem w_X6_twinsOf_75 {X : gX} {τ : gτ} {p : Program} {l : Launch} {e : Env} {s : State} {m : MethodId} {args : Array Value} {below : List Frame} {meth : Method} {c : Code} (fx : gFx X p s m args meth c cX6_twinsOf 6 RX6) (n : Nat) (x0 : Nat) (x1 : Int32) (x2 : Int32) (x3 : Int32)  (h0 : gK τ x0 6)  {Q : State → Prop} {K : ((Int32 × Int32) ⊕ ((Int32))) → Prop} {G : gG} {H : Heap} {locs : List Loc} {ls : Array Slot} (hw : gHw X τ G H locs) (hl : lv_has ls 6 [(0, .ref x0), (1, .int x1), (2, .int x2), (3, .int x3)]) (hok : gOk (k_X6_twinsOf_75 τ n x0 x1 x2 x3  G) K) (hc : ∀ (y2 : Int32) (y3 : Int32) (H : Heap) (locs : List Loc) (ls : Array Slot), gHw X τ G H locs → lv_has ls 6 [(0, .ref x0), (1, .int x1), (2, .int y2), (3, .int y3)] → K (.inl (y2, y3)) → W p l e rm_X6_twinsOf s m args below meth c H locs 0 0 Q (F0 m 4 ls [])) (hx0 : ∀ (y2 : Int32) (H : Heap) (locs : List Loc) (ls : Array Slot), gHw X τ G H locs → lv_has ls 6 [(2, .int y2)] → K (.inr y2) → W p l e rm_X6_twinsOf s m args below meth c H locs 0 0 Q (F0 m 100 ls [])) : W p l e rm_X6_twinsOf s m args below meth c H locs 0 0 Q (F0 m 75 ls []) := by
  unfold k_X6_twinsOf_75 at hok
  refine lv_iconst (v := 0) fx.1 fx.2.1 dX6_twinsOf_75 (by decide) ?_
  exact w_X6_twinsOf_76 fx n x0 x1 x2 x3 (0 : Int32) h0  hw (lv_sub hl [0, 1, 2, 3] rfl) hok hc hx0
set_option maxHeartbeats 4000000 in
set_option maxRecDepth 100000 in
theorem w_b_X6_twinsOf_4 {X : gX} {τ : gτ} {p : Program} {l : Launch} {e : Env} {s : State} {m : MethodId} {args : Array Value} {below : List Frame} {meth : Method} {c : Code} (fx : gFx X p s m args meth c cX6_twinsOf 6 RX6) (n : Nat) (x0 : Nat) (x1 : Int32) (x2 : Int32) (x3 : Int32) (h0 : gK τ x0 6) {Q : State → Prop} {K : ((Int32 × Int32) ⊕ ((Int32))) → Prop} {G : gG} {H : Heap} {locs : List Loc} {ls : Array Slot} (hw : gHw X τ G H locs) (hl : lv_has ls 6 [(0, .ref x0), (1, .int x1), (2, .int x2), (3, .int x3)]) (hok : gOk (b_X6_twinsOf_4 τ n x0 x1 x2 x3 G) K) (hc : ∀ (y2 : Int32) (y3 : Int32) (H : Heap) (locs : List Loc) (ls : Array Slot), gHw X τ G H locs → lv_has ls 6 [(0, .ref x0), (1, .int x1), (2, .int y2), (3, .int y3)] → K (.inl (y2, y3)) → W p l e rm_X6_twinsOf s m args below meth c H locs 0 0 Q (F0 m 4 ls [])) (hx0 : ∀ (y2 : Int32) (H : Heap) (locs : List Loc) (ls : Array Slot), gHw X τ G H locs → lv_has ls 6 [(2, .int y2)] → K (.inr y2) → W p l e rm_X6_twinsOf s m args below meth c H locs 0 0 Q (F0 m 100 ls [])) : W p l e rm_X6_twinsOf s m args below meth c H locs 0 0 Q (F0 m 4 ls []) := by
  unfold b_X6_twinsOf_4 at hok
  refine lv_iload_n fx.1 fx.2.1 dX6_twinsOf_4 rfl (lv_at hl 3 rfl) ?_
  refine lv_aload_n fx.1 fx.2.1 dX6_twinsOf_5 rfl (lv_at hl 0 rfl) ?_
  refine g_geti fx hw h0 lf_RX6_50 rfl dX6_twinsOf_6 ?_
  refine g_icmp_ge (tgt := 100) fx dX6_twinsOf_9 (by decide) hok (fun hok => ?_) (fun hok => ?_)
  · exact hx0 x2  _ _ _  hw (lv_sub hl [2] rfl) (gOk_some hok)
  · refine lv_aload_n fx.1 fx.2.1 dX6_twinsOf_12 rfl (lv_at hl 0 rfl) ?_
    refine g_getr fx hw h0 lf_RX6_19 rfl dX6_twinsOf_13 hok (fun a1 h_a1 hok => ?_)
    refine lv_iload_n fx.1 fx.2.1 dX6_twinsOf_16 rfl (lv_at hl 3 rfl) ?_
    refine g_aald fx hw 15 3 h_a1 (by decide) (by decide) rfl (κ' := 5) rfl dX6_twinsOf_17 hok (fun a2 h_a2 hok => ?_)
    refine lv_astore (lv' := [(4, .ref a2), (0, .ref x0), (1, .int x1), (2, .int x2), (3, .int x3)]) fx.1 fx.2.1 dX6_twinsOf_18 hl (by decide) rfl (fun ls hl => ?_)
    refine lv_aload fx.1 fx.2.1 dX6_twinsOf_20 (lv_at hl 0 rfl) ?_
    refine lv_aload_n fx.1 fx.2.1 dX6_twinsOf_22 rfl (lv_at hl 1 rfl) ?_
    refine g_getr fx hw h0 lf_RX6_19 rfl dX6_twinsOf_23 hok (fun a3 h_a3 hok => ?_)
    refine lv_iload_n fx.1 fx.2.1 dX6_twinsOf_26 rfl (lv_at hl 2 rfl) ?_
    refine g_aald fx hw 15 3 h_a3 (by decide) (by decide) rfl (κ' := 5) rfl dX6_twinsOf_27 hok (fun a4 h_a4 hok => ?_)
    refine g_geti fx hw h_a4 lf_RX6_126 rfl dX6_twinsOf_28 ?_
    obtain ⟨v5, hf, hok⟩ := gOk_bind hok
    refine g_callV0 (κ := 5) fx hw (c_X5_isOf l X τ a2 (gi G 5 0 a4) G h_a2 hf) lv_RX6_108 ⟨rfl, rfl⟩ rfl rfl h_a2 rfl hl.1 rfl ⟨Nat.le_of_ble_eq_true rfl, Nat.le_of_ble_eq_true rfl⟩ (Nat.le_of_ble_eq_true rfl) ⟨Nat.le_of_ble_eq_true rfl, Nat.le_of_ble_eq_true rfl⟩ dX6_twinsOf_31 (fun H locs hw => ?_)
    refine g_if_eq (tgt := 75) fx dX6_twinsOf_34 (by decide) hok (fun hok => ?_) (fun hok => ?_)
    · exact w_X6_twinsOf_75 fx n x0 x1 x2 x3  h0  hw (lv_sub hl [1, 2, 3, 4] rfl) hok hc hx0
    · refine lv_aload fx.1 fx.2.1 dX6_twinsOf_37 (lv_at hl 0 rfl) ?_
      refine lv_aload_n fx.1 fx.2.1 dX6_twinsOf_39 rfl (lv_at hl 1 rfl) ?_
      refine g_getr fx hw h0 lf_RX6_19 rfl dX6_twinsOf_40 hok (fun a10 h_a10 hok => ?_)
      refine lv_iload_n fx.1 fx.2.1 dX6_twinsOf_43 rfl (lv_at hl 2 rfl) ?_
      refine g_aald fx hw 15 3 h_a10 (by decide) (by decide) rfl (κ' := 5) rfl dX6_twinsOf_44 hok (fun a11 h_a11 hok => ?_)
      refine g_geti fx hw h_a11 lf_RX6_129 rfl dX6_twinsOf_45 ?_
      obtain ⟨v12, hf, hok⟩ := gOk_bind hok
      refine g_callV0 (κ := 5) fx hw (c_X5_isOf l X τ a2 (gi G 5 1 a11) G h_a2 hf) lv_RX6_108 ⟨rfl, rfl⟩ rfl rfl h_a2 rfl hl.1 rfl ⟨Nat.le_of_ble_eq_true rfl, Nat.le_of_ble_eq_true rfl⟩ (Nat.le_of_ble_eq_true rfl) ⟨Nat.le_of_ble_eq_true rfl, Nat.le_of_ble_eq_true rfl⟩ dX6_twinsOf_48 (fun H locs hw => ?_)
      refine g_if_eq (tgt := 75) fx dX6_twinsOf_51 (by decide) hok (fun hok => ?_) (fun hok => ?_)
      · exact w_X6_twinsOf_75 fx n x0 x1 x2 x3  h0  hw (lv_sub hl [1, 2, 3, 4] rfl) hok hc hx0
      · refine lv_aload fx.1 fx.2.1 dX6_twinsOf_54 (lv_at hl 0 rfl) ?_
        refine lv_aload_n fx.1 fx.2.1 dX6_twinsOf_56 rfl (lv_at hl 1 rfl) ?_
        refine g_getr fx hw h0 lf_RX6_19 rfl dX6_twinsOf_57 hok (fun a13 h_a13 hok => ?_)
        refine lv_iload_n fx.1 fx.2.1 dX6_twinsOf_60 rfl (lv_at hl 2 rfl) ?_
        refine g_aald fx hw 15 3 h_a13 (by decide) (by decide) rfl (κ' := 5) rfl dX6_twinsOf_61 hok (fun a14 h_a14 hok => ?_)
        refine g_geti fx hw h_a14 lf_RX6_132 rfl dX6_twinsOf_62 ?_
        obtain ⟨v15, hf, hok⟩ := gOk_bind hok
        refine g_callV0 (κ := 5) fx hw (c_X5_isOf l X τ a2 (gi G 5 2 a14) G h_a2 hf) lv_RX6_108 ⟨rfl, rfl⟩ rfl rfl h_a2 rfl hl.1 rfl ⟨Nat.le_of_ble_eq_true rfl, Nat.le_of_ble_eq_true rfl⟩ (Nat.le_of_ble_eq_true rfl) ⟨Nat.le_of_ble_eq_true rfl, Nat.le_of_ble_eq_true rfl⟩ dX6_twinsOf_65 (fun H locs hw => ?_)
        refine g_if_eq (tgt := 75) fx dX6_twinsOf_68 (by decide) hok (fun hok => ?_) (fun hok => ?_)
        · exact w_X6_twinsOf_75 fx n x0 x1 x2 x3  h0  hw (lv_sub hl [1, 2, 3, 4] rfl) hok hc hx0
        · refine lv_iconst (v := 1) fx.1 fx.2.1 dX6_twinsOf_71 (by decide) ?_
          refine lv_goto (tgt := 76) fx.1 fx.2.1 dX6_twinsOf_72 (by decide) ?_
          exact w_X6_twinsOf_76 fx n x0 x1 x2 x3 (1 : Int32) h0  hw (lv_sub hl [1, 2, 3, 4] rfl) hok hc hx0
theorem w_l_X6_twinsOf_4 {X : gX} {τ : gτ} {p : Program} {l : Launch} {e : Env} {s : State} {m : MethodId} {args : Array Value} {below : List Frame} {meth : Method} {c : Code} (fx : gFx X p s m args meth c cX6_twinsOf 6 RX6) (n : Nat) (x0 : Nat) (x1 : Int32) (h0 : gK τ x0 6) (G : gG) {Q : State → Prop} {K : ((Int32)) → Prop} (hx0 : ∀ (y2 : Int32) (H : Heap) (locs : List Loc) (ls : Array Slot), gHw X τ G H locs → lv_has ls 6 [(2, .int y2)] → K y2 → W p l e rm_X6_twinsOf s m args below meth c H locs 0 0 Q (F0 m 100 ls [])) : ∀ (k : Nat) (x2 : Int32) (x3 : Int32) (H : Heap) (locs : List Loc) (ls : Array Slot), gHw X τ G H locs → lv_has ls 6 [(0, .ref x0), (1, .int x1), (2, .int x2), (3, .int x3)] → gOk (gIter (fun (q : Int32 × Int32) => b_X6_twinsOf_4 τ n x0 x1 q.1 q.2 G) k (x2, x3)) K → W p l e rm_X6_twinsOf s m args below meth c H locs 0 0 Q (F0 m 4 ls []) := by
  intro k
  induction k with
  | zero =>
    intro x2 x3  H locs ls hw hl hok
    exact gOk_iter0 hok
  | succ k hc =>
    intro x2 x3  H locs ls hw hl hok
    exact w_b_X6_twinsOf_4 fx n x0 x1 x2 x3 h0 hw hl (gOk_iter hok) hc hx0
set_option maxHeartbeats 4000000 in
set_option maxRecDepth 100000 in
theorem c_X6_twinsOf (l : Launch) (X : gX) (τ : gτ) (n : Nat) (x0 : Nat) (x1 : Int32) (G : gG) (h0 : gK τ x0 6) {r : Int32}  (h : f_X6_twinsOf τ n x0 x1 G = some r) : gM l X τ yX6_twinsOf cX6_twinsOf 6 (some .int) rm_X6_twinsOf [.ref x0, .int x1] G (some (.int r)) G := by
  refine g_body (by decide +kernel) (Nat.le_of_ble_eq_true rfl) ?_
  intro p e s m args below meth c ls fx hr hw hl
  have fx : gFx X p s m args meth c cX6_twinsOf 6 RX6 := fx
  have hl : lv_has ls 6 [(0, .ref x0), (1, .int x1)] := hl
  have hok : gOk (f_X6_twinsOf τ n x0 x1 G) (fun q => q = r) := ⟨_, h, rfl⟩
  unfold f_X6_twinsOf at hok
  show W p l e rm_X6_twinsOf s m args below meth c s.heap [] 0 0 (MQ below (gQ X τ (some (.int r)) G) args s 0 0 (gFree X)) _
  refine lv_iconst (v := 0) fx.1 fx.2.1 dX6_twinsOf_0 (by decide) ?_
  refine lv_istore_n (lv' := [(2, .int (0 : Int32)), (0, .ref x0), (1, .int x1)]) fx.1 fx.2.1 dX6_twinsOf_1 rfl hl (by decide) rfl (fun ls hl => ?_)
  refine lv_iconst (v := 0) fx.1 fx.2.1 dX6_twinsOf_2 (by decide) ?_
  refine lv_istore_n (lv' := [(3, .int (0 : Int32)), (2, .int (0 : Int32)), (0, .ref x0), (1, .int x1)]) fx.1 fx.2.1 dX6_twinsOf_3 rfl hl (by decide) rfl (fun ls hl => ?_)
  refine w_l_X6_twinsOf_4 fx n x0 x1 h0 G ?_ n (0 : Int32) (0 : Int32)  _ _ _  hw (lv_sub hl [2, 3, 1, 0] rfl) (gOk_bindK hok)
  intro z16  H locs ls hw hl hok
  have hok : gOk (ρ := Int32) (some (z16)) _ := hok
  refine lv_iload_n fx.1 fx.2.1 dX6_twinsOf_100 rfl (lv_at hl 0 rfl) ?_
  cases gOk_some hok
  exact g_iret fx hw hr dX6_twinsOf_101
theorem dX6_brokenRopes_0 : decode cX6_brokenRopes 0 = .ok (.iconst 0, 1) := by decide +kernel
theorem dX6_brokenRopes_1 : decode cX6_brokenRopes 1 = .ok (.istore_n 1, 1) := by decide +kernel
theorem dX6_brokenRopes_2 : decode cX6_brokenRopes 2 = .ok (.iconst 0, 1) := by decide +kernel
theorem dX6_brokenRopes_3 : decode cX6_brokenRopes 3 = .ok (.istore_n 2, 1) := by decide +kernel
theorem dX6_brokenRopes_4 : decode cX6_brokenRopes 4 = .ok (.iload_n 2, 1) := by decide +kernel
theorem dX6_brokenRopes_5 : decode cX6_brokenRopes 5 = .ok (.aload_n 0, 1) := by decide +kernel
theorem dX6_brokenRopes_6 : decode cX6_brokenRopes 6 = .ok (.getfield 50, 3) := by decide +kernel
theorem dX6_brokenRopes_9 : decode cX6_brokenRopes 9 = .ok (.if_icmp .ge 27, 3) := by decide +kernel
theorem dX6_brokenRopes_12 : decode cX6_brokenRopes 12 = .ok (.aload_n 0, 1) := by decide +kernel
theorem dX6_brokenRopes_13 : decode cX6_brokenRopes 13 = .ok (.getfield 19, 3) := by decide +kernel
theorem dX6_brokenRopes_16 : decode cX6_brokenRopes 16 = .ok (.iload_n 2, 1) := by decide +kernel
theorem dX6_brokenRopes_17 : decode cX6_brokenRopes 17 = .ok (.aaload, 1) := by decide +kernel
theorem dX6_brokenRopes_18 : decode cX6_brokenRopes 18 = .ok (.getfield 135, 3) := by decide +kernel
theorem dX6_brokenRopes_21 : decode cX6_brokenRopes 21 = .ok (.ifCond .eq 9, 3) := by decide +kernel
theorem dX6_brokenRopes_24 : decode cX6_brokenRopes 24 = .ok (.iload_n 1, 1) := by decide +kernel
theorem dX6_brokenRopes_25 : decode cX6_brokenRopes 25 = .ok (.iconst 1, 1) := by decide +kernel
theorem dX6_brokenRopes_26 : decode cX6_brokenRopes 26 = .ok (.iload_n 2, 1) := by decide +kernel
theorem dX6_brokenRopes_27 : decode cX6_brokenRopes 27 = .ok (.ishl, 1) := by decide +kernel
theorem dX6_brokenRopes_28 : decode cX6_brokenRopes 28 = .ok (.ior, 1) := by decide +kernel
theorem dX6_brokenRopes_29 : decode cX6_brokenRopes 29 = .ok (.istore_n 1, 1) := by decide +kernel
theorem dX6_brokenRopes_30 : decode cX6_brokenRopes 30 = .ok (.iinc 2 1, 3) := by decide +kernel
theorem dX6_brokenRopes_33 : decode cX6_brokenRopes 33 = .ok (.goto (-29), 3) := by decide +kernel
theorem dX6_brokenRopes_36 : decode cX6_brokenRopes 36 = .ok (.iload_n 1, 1) := by decide +kernel
theorem dX6_brokenRopes_37 : decode cX6_brokenRopes 37 = .ok (.ireturn, 1) := by decide +kernel
theorem lf_RX6_135 : gLf RX6 135 5 9 := ⟨(RX5, TX5, 10), rfl, by decide, wA_t (wt1 (List.mem_of_getElem? (i := 204) (by decide +kernel))) (by decide +kernel), rfl⟩
def rm_X6_brokenRopes : Room := { frames := 0, cells := 0, slots := 0, locals := 0 }
def b_X6_brokenRopes_4 (τ : gτ) (n : Nat) (x0 : Nat) (x1 : Int32) (x2 : Int32) (G : gG) : Option ((Int32 × Int32) ⊕ ((Int32))) :=
  if (gi G 6 5 x0) ≤ x2 then (some (.inr x1))
  else ((gr G 6 1 x0).bind fun a1 =>
  gchk (gIn x2 (gn τ a1)) <| (gq G a1 (Int32.toNatClampNeg x2)).bind fun a2 =>
  if (gi G 5 9 a2) = 0 then (gLet (x2 + 1) fun v3 =>
  some (.inl (x1, v3)))
  else (gLet (x1 ||| ((1 : Int32) <<< (x2 &&& 31))) fun v4 =>
  gLet (x2 + 1) fun v5 =>
  some (.inl (v4, v5))))
def l_X6_brokenRopes_4 (τ : gτ) (n : Nat) (x0 : Nat) (x1 : Int32) (x2 : Int32) (G : gG) : Option ((Int32)) :=
  gIter (fun (q : Int32 × Int32) => b_X6_brokenRopes_4 τ n x0 q.1 q.2 G) n (x1, x2)
def f_X6_brokenRopes (τ : gτ) (n : Nat) (x0 : Nat) (G : gG) : Option (Int32) :=
  (l_X6_brokenRopes_4 τ n x0 (0 : Int32) (0 : Int32) G).bind fun q => gLet q fun z6 => 
  some (z6)
set_option maxHeartbeats 4000000 in
set_option maxRecDepth 100000 in
theorem w_b_X6_brokenRopes_4 {X : gX} {τ : gτ} {p : Program} {l : Launch} {e : Env} {s : State} {m : MethodId} {args : Array Value} {below : List Frame} {meth : Method} {c : Code} (fx : gFx X p s m args meth c cX6_brokenRopes 3 RX6) (n : Nat) (x0 : Nat) (x1 : Int32) (x2 : Int32) (h0 : gK τ x0 6) {Q : State → Prop} {K : ((Int32 × Int32) ⊕ ((Int32))) → Prop} {G : gG} {H : Heap} {locs : List Loc} {ls : Array Slot} (hw : gHw X τ G H locs) (hl : lv_has ls 3 [(0, .ref x0), (1, .int x1), (2, .int x2)]) (hok : gOk (b_X6_brokenRopes_4 τ n x0 x1 x2 G) K) (hc : ∀ (y1 : Int32) (y2 : Int32) (H : Heap) (locs : List Loc) (ls : Array Slot), gHw X τ G H locs → lv_has ls 3 [(0, .ref x0), (1, .int y1), (2, .int y2)] → K (.inl (y1, y2)) → W p l e rm_X6_brokenRopes s m args below meth c H locs 0 0 Q (F0 m 4 ls [])) (hx0 : ∀ (y1 : Int32) (H : Heap) (locs : List Loc) (ls : Array Slot), gHw X τ G H locs → lv_has ls 3 [(1, .int y1)] → K (.inr y1) → W p l e rm_X6_brokenRopes s m args below meth c H locs 0 0 Q (F0 m 36 ls [])) : W p l e rm_X6_brokenRopes s m args below meth c H locs 0 0 Q (F0 m 4 ls []) := by
  unfold b_X6_brokenRopes_4 at hok
  refine lv_iload_n fx.1 fx.2.1 dX6_brokenRopes_4 rfl (lv_at hl 2 rfl) ?_
  refine lv_aload_n fx.1 fx.2.1 dX6_brokenRopes_5 rfl (lv_at hl 0 rfl) ?_
  refine g_geti fx hw h0 lf_RX6_50 rfl dX6_brokenRopes_6 ?_
  refine g_icmp_ge (tgt := 36) fx dX6_brokenRopes_9 (by decide) hok (fun hok => ?_) (fun hok => ?_)
  · exact hx0 x1  _ _ _  hw (lv_sub hl [1] rfl) (gOk_some hok)
  · refine lv_aload_n fx.1 fx.2.1 dX6_brokenRopes_12 rfl (lv_at hl 0 rfl) ?_
    refine g_getr fx hw h0 lf_RX6_19 rfl dX6_brokenRopes_13 hok (fun a1 h_a1 hok => ?_)
    refine lv_iload_n fx.1 fx.2.1 dX6_brokenRopes_16 rfl (lv_at hl 2 rfl) ?_
    refine g_aald fx hw 15 3 h_a1 (by decide) (by decide) rfl (κ' := 5) rfl dX6_brokenRopes_17 hok (fun a2 h_a2 hok => ?_)
    refine g_geti fx hw h_a2 lf_RX6_135 rfl dX6_brokenRopes_18 ?_
    refine g_if_eq (tgt := 30) fx dX6_brokenRopes_21 (by decide) hok (fun hok => ?_) (fun hok => ?_)
    · obtain ⟨v3, e_v3, hok⟩ := gOk_let hok
      refine lv_iinc (v := v3) (lv' := [(2, .int v3), (0, .ref x0), (1, .int x1)]) fx.1 fx.2.1 dX6_brokenRopes_30 hl (k := 2) rfl (by rw [e_v3]; rfl) (by decide) rfl (fun ls hl => ?_)
      refine lv_goto (tgt := 4) fx.1 fx.2.1 dX6_brokenRopes_33 (by decide) ?_
      exact hc x1 v3  _ _ _  hw (lv_sub hl [1, 2, 0] rfl) (gOk_some hok)
    · refine lv_iload_n fx.1 fx.2.1 dX6_brokenRopes_24 rfl (lv_at hl 1 rfl) ?_
      refine lv_iconst (v := 1) fx.1 fx.2.1 dX6_brokenRopes_25 (by decide) ?_
      refine lv_iload_n fx.1 fx.2.1 dX6_brokenRopes_26 rfl (lv_at hl 2 rfl) ?_
      refine lv_ishl fx.1 fx.2.1 dX6_brokenRopes_27 ?_
      refine lv_ior fx.1 fx.2.1 dX6_brokenRopes_28 ?_
      refine g_leti hok (fun v4 hok => ?_)
      refine lv_istore_n (lv' := [(1, .int v4), (0, .ref x0), (2, .int x2)]) fx.1 fx.2.1 dX6_brokenRopes_29 rfl hl (by decide) rfl (fun ls hl => ?_)
      obtain ⟨v5, e_v5, hok⟩ := gOk_let hok
      refine lv_iinc (v := v5) (lv' := [(2, .int v5), (1, .int v4), (0, .ref x0)]) fx.1 fx.2.1 dX6_brokenRopes_30 hl (k := 2) rfl (by rw [e_v5]; rfl) (by decide) rfl (fun ls hl => ?_)
      refine lv_goto (tgt := 4) fx.1 fx.2.1 dX6_brokenRopes_33 (by decide) ?_
      exact hc v4 v5  _ _ _  hw (lv_sub hl [2, 1, 0] rfl) (gOk_some hok)
theorem w_l_X6_brokenRopes_4 {X : gX} {τ : gτ} {p : Program} {l : Launch} {e : Env} {s : State} {m : MethodId} {args : Array Value} {below : List Frame} {meth : Method} {c : Code} (fx : gFx X p s m args meth c cX6_brokenRopes 3 RX6) (n : Nat) (x0 : Nat) (h0 : gK τ x0 6) (G : gG) {Q : State → Prop} {K : ((Int32)) → Prop} (hx0 : ∀ (y1 : Int32) (H : Heap) (locs : List Loc) (ls : Array Slot), gHw X τ G H locs → lv_has ls 3 [(1, .int y1)] → K y1 → W p l e rm_X6_brokenRopes s m args below meth c H locs 0 0 Q (F0 m 36 ls [])) : ∀ (k : Nat) (x1 : Int32) (x2 : Int32) (H : Heap) (locs : List Loc) (ls : Array Slot), gHw X τ G H locs → lv_has ls 3 [(0, .ref x0), (1, .int x1), (2, .int x2)] → gOk (gIter (fun (q : Int32 × Int32) => b_X6_brokenRopes_4 τ n x0 q.1 q.2 G) k (x1, x2)) K → W p l e rm_X6_brokenRopes s m args below meth c H locs 0 0 Q (F0 m 4 ls []) := by
  intro k
  induction k with
  | zero =>
    intro x1 x2  H locs ls hw hl hok
    exact gOk_iter0 hok
  | succ k hc =>
    intro x1 x2  H locs ls hw hl hok
    exact w_b_X6_brokenRopes_4 fx n x0 x1 x2 h0 hw hl (gOk_iter hok) hc hx0
set_option maxHeartbeats 4000000 in
set_option maxRecDepth 100000 in
theorem c_X6_brokenRopes (l : Launch) (X : gX) (τ : gτ) (n : Nat) (x0 : Nat) (G : gG) (h0 : gK τ x0 6) {r : Int32}  (h : f_X6_brokenRopes τ n x0 G = some r) : gM l X τ yX6_brokenRopes cX6_brokenRopes 3 (some .int) rm_X6_brokenRopes [.ref x0] G (some (.int r)) G := by
  refine g_body (by decide +kernel) (Nat.le_of_ble_eq_true rfl) ?_
  intro p e s m args below meth c ls fx hr hw hl
  have fx : gFx X p s m args meth c cX6_brokenRopes 3 RX6 := fx
  have hl : lv_has ls 3 [(0, .ref x0)] := hl
  have hok : gOk (f_X6_brokenRopes τ n x0 G) (fun q => q = r) := ⟨_, h, rfl⟩
  unfold f_X6_brokenRopes at hok
  show W p l e rm_X6_brokenRopes s m args below meth c s.heap [] 0 0 (MQ below (gQ X τ (some (.int r)) G) args s 0 0 (gFree X)) _
  refine lv_iconst (v := 0) fx.1 fx.2.1 dX6_brokenRopes_0 (by decide) ?_
  refine lv_istore_n (lv' := [(1, .int (0 : Int32)), (0, .ref x0)]) fx.1 fx.2.1 dX6_brokenRopes_1 rfl hl (by decide) rfl (fun ls hl => ?_)
  refine lv_iconst (v := 0) fx.1 fx.2.1 dX6_brokenRopes_2 (by decide) ?_
  refine lv_istore_n (lv' := [(2, .int (0 : Int32)), (1, .int (0 : Int32)), (0, .ref x0)]) fx.1 fx.2.1 dX6_brokenRopes_3 rfl hl (by decide) rfl (fun ls hl => ?_)
  refine w_l_X6_brokenRopes_4 fx n x0 h0 G ?_ n (0 : Int32) (0 : Int32)  _ _ _  hw (lv_sub hl [2, 1, 0] rfl) (gOk_bindK hok)
  intro z6  H locs ls hw hl hok
  have hok : gOk (ρ := Int32) (some (z6)) _ := hok
  refine lv_iload_n fx.1 fx.2.1 dX6_brokenRopes_36 rfl (lv_at hl 0 rfl) ?_
  cases gOk_some hok
  exact g_iret fx hw hr dX6_brokenRopes_37
theorem dX6_hangingLoads_0 : decode cX6_hangingLoads 0 = .ok (.iconst 0, 1) := by decide +kernel
theorem dX6_hangingLoads_1 : decode cX6_hangingLoads 1 = .ok (.istore_n 1, 1) := by decide +kernel
theorem dX6_hangingLoads_2 : decode cX6_hangingLoads 2 = .ok (.iconst 0, 1) := by decide +kernel
theorem dX6_hangingLoads_3 : decode cX6_hangingLoads 3 = .ok (.istore_n 2, 1) := by decide +kernel
theorem dX6_hangingLoads_4 : decode cX6_hangingLoads 4 = .ok (.iload_n 2, 1) := by decide +kernel
theorem dX6_hangingLoads_5 : decode cX6_hangingLoads 5 = .ok (.aload_n 0, 1) := by decide +kernel
theorem dX6_hangingLoads_6 : decode cX6_hangingLoads 6 = .ok (.getfield 50, 3) := by decide +kernel
theorem dX6_hangingLoads_9 : decode cX6_hangingLoads 9 = .ok (.if_icmp .ge 21, 3) := by decide +kernel
theorem dX6_hangingLoads_12 : decode cX6_hangingLoads 12 = .ok (.iload_n 1, 1) := by decide +kernel
theorem dX6_hangingLoads_13 : decode cX6_hangingLoads 13 = .ok (.aload_n 0, 1) := by decide +kernel
theorem dX6_hangingLoads_14 : decode cX6_hangingLoads 14 = .ok (.getfield 19, 3) := by decide +kernel
theorem dX6_hangingLoads_17 : decode cX6_hangingLoads 17 = .ok (.iload_n 2, 1) := by decide +kernel
theorem dX6_hangingLoads_18 : decode cX6_hangingLoads 18 = .ok (.aaload, 1) := by decide +kernel
theorem dX6_hangingLoads_19 : decode cX6_hangingLoads 19 = .ok (.getfield 123, 3) := by decide +kernel
theorem dX6_hangingLoads_22 : decode cX6_hangingLoads 22 = .ok (.iadd, 1) := by decide +kernel
theorem dX6_hangingLoads_23 : decode cX6_hangingLoads 23 = .ok (.istore_n 1, 1) := by decide +kernel
theorem dX6_hangingLoads_24 : decode cX6_hangingLoads 24 = .ok (.iinc 2 1, 3) := by decide +kernel
theorem dX6_hangingLoads_27 : decode cX6_hangingLoads 27 = .ok (.goto (-23), 3) := by decide +kernel
theorem dX6_hangingLoads_30 : decode cX6_hangingLoads 30 = .ok (.iload_n 1, 1) := by decide +kernel
theorem dX6_hangingLoads_31 : decode cX6_hangingLoads 31 = .ok (.ireturn, 1) := by decide +kernel
theorem lf_RX6_123 : gLf RX6 123 5 7 := ⟨(RX5, TX5, 10), rfl, by decide, wA_t (wt1 (List.mem_of_getElem? (i := 195) (by decide +kernel))) (by decide +kernel), rfl⟩
def rm_X6_hangingLoads : Room := { frames := 0, cells := 0, slots := 0, locals := 0 }
def b_X6_hangingLoads_4 (τ : gτ) (n : Nat) (x0 : Nat) (x1 : Int32) (x2 : Int32) (G : gG) : Option ((Int32 × Int32) ⊕ ((Int32))) :=
  if (gi G 6 5 x0) ≤ x2 then (some (.inr x1))
  else ((gr G 6 1 x0).bind fun a1 =>
  gchk (gIn x2 (gn τ a1)) <| (gq G a1 (Int32.toNatClampNeg x2)).bind fun a2 =>
  gLet (x1 + (gi G 5 7 a2)) fun v3 =>
  gLet (x2 + 1) fun v4 =>
  some (.inl (v3, v4)))
def l_X6_hangingLoads_4 (τ : gτ) (n : Nat) (x0 : Nat) (x1 : Int32) (x2 : Int32) (G : gG) : Option ((Int32)) :=
  gIter (fun (q : Int32 × Int32) => b_X6_hangingLoads_4 τ n x0 q.1 q.2 G) n (x1, x2)
def f_X6_hangingLoads (τ : gτ) (n : Nat) (x0 : Nat) (G : gG) : Option (Int32) :=
  (l_X6_hangingLoads_4 τ n x0 (0 : Int32) (0 : Int32) G).bind fun q => gLet q fun z5 => 
  some (z5)
set_option maxHeartbeats 4000000 in
set_option maxRecDepth 100000 in
theorem w_b_X6_hangingLoads_4 {X : gX} {τ : gτ} {p : Program} {l : Launch} {e : Env} {s : State} {m : MethodId} {args : Array Value} {below : List Frame} {meth : Method} {c : Code} (fx : gFx X p s m args meth c cX6_hangingLoads 3 RX6) (n : Nat) (x0 : Nat) (x1 : Int32) (x2 : Int32) (h0 : gK τ x0 6) {Q : State → Prop} {K : ((Int32 × Int32) ⊕ ((Int32))) → Prop} {G : gG} {H : Heap} {locs : List Loc} {ls : Array Slot} (hw : gHw X τ G H locs) (hl : lv_has ls 3 [(0, .ref x0), (1, .int x1), (2, .int x2)]) (hok : gOk (b_X6_hangingLoads_4 τ n x0 x1 x2 G) K) (hc : ∀ (y1 : Int32) (y2 : Int32) (H : Heap) (locs : List Loc) (ls : Array Slot), gHw X τ G H locs → lv_has ls 3 [(0, .ref x0), (1, .int y1), (2, .int y2)] → K (.inl (y1, y2)) → W p l e rm_X6_hangingLoads s m args below meth c H locs 0 0 Q (F0 m 4 ls [])) (hx0 : ∀ (y1 : Int32) (H : Heap) (locs : List Loc) (ls : Array Slot), gHw X τ G H locs → lv_has ls 3 [(1, .int y1)] → K (.inr y1) → W p l e rm_X6_hangingLoads s m args below meth c H locs 0 0 Q (F0 m 30 ls [])) : W p l e rm_X6_hangingLoads s m args below meth c H locs 0 0 Q (F0 m 4 ls []) := by
  unfold b_X6_hangingLoads_4 at hok
  refine lv_iload_n fx.1 fx.2.1 dX6_hangingLoads_4 rfl (lv_at hl 2 rfl) ?_
  refine lv_aload_n fx.1 fx.2.1 dX6_hangingLoads_5 rfl (lv_at hl 0 rfl) ?_
  refine g_geti fx hw h0 lf_RX6_50 rfl dX6_hangingLoads_6 ?_
  refine g_icmp_ge (tgt := 30) fx dX6_hangingLoads_9 (by decide) hok (fun hok => ?_) (fun hok => ?_)
  · exact hx0 x1  _ _ _  hw (lv_sub hl [1] rfl) (gOk_some hok)
  · refine lv_iload_n fx.1 fx.2.1 dX6_hangingLoads_12 rfl (lv_at hl 1 rfl) ?_
    refine lv_aload_n fx.1 fx.2.1 dX6_hangingLoads_13 rfl (lv_at hl 0 rfl) ?_
    refine g_getr fx hw h0 lf_RX6_19 rfl dX6_hangingLoads_14 hok (fun a1 h_a1 hok => ?_)
    refine lv_iload_n fx.1 fx.2.1 dX6_hangingLoads_17 rfl (lv_at hl 2 rfl) ?_
    refine g_aald fx hw 15 3 h_a1 (by decide) (by decide) rfl (κ' := 5) rfl dX6_hangingLoads_18 hok (fun a2 h_a2 hok => ?_)
    refine g_geti fx hw h_a2 lf_RX6_123 rfl dX6_hangingLoads_19 ?_
    refine lv_iadd fx.1 fx.2.1 dX6_hangingLoads_22 ?_
    refine g_leti hok (fun v3 hok => ?_)
    refine lv_istore_n (lv' := [(1, .int v3), (0, .ref x0), (2, .int x2)]) fx.1 fx.2.1 dX6_hangingLoads_23 rfl hl (by decide) rfl (fun ls hl => ?_)
    obtain ⟨v4, e_v4, hok⟩ := gOk_let hok
    refine lv_iinc (v := v4) (lv' := [(2, .int v4), (1, .int v3), (0, .ref x0)]) fx.1 fx.2.1 dX6_hangingLoads_24 hl (k := 2) rfl (by rw [e_v4]; rfl) (by decide) rfl (fun ls hl => ?_)
    refine lv_goto (tgt := 4) fx.1 fx.2.1 dX6_hangingLoads_27 (by decide) ?_
    exact hc v3 v4  _ _ _  hw (lv_sub hl [2, 1, 0] rfl) (gOk_some hok)
theorem w_l_X6_hangingLoads_4 {X : gX} {τ : gτ} {p : Program} {l : Launch} {e : Env} {s : State} {m : MethodId} {args : Array Value} {below : List Frame} {meth : Method} {c : Code} (fx : gFx X p s m args meth c cX6_hangingLoads 3 RX6) (n : Nat) (x0 : Nat) (h0 : gK τ x0 6) (G : gG) {Q : State → Prop} {K : ((Int32)) → Prop} (hx0 : ∀ (y1 : Int32) (H : Heap) (locs : List Loc) (ls : Array Slot), gHw X τ G H locs → lv_has ls 3 [(1, .int y1)] → K y1 → W p l e rm_X6_hangingLoads s m args below meth c H locs 0 0 Q (F0 m 30 ls [])) : ∀ (k : Nat) (x1 : Int32) (x2 : Int32) (H : Heap) (locs : List Loc) (ls : Array Slot), gHw X τ G H locs → lv_has ls 3 [(0, .ref x0), (1, .int x1), (2, .int x2)] → gOk (gIter (fun (q : Int32 × Int32) => b_X6_hangingLoads_4 τ n x0 q.1 q.2 G) k (x1, x2)) K → W p l e rm_X6_hangingLoads s m args below meth c H locs 0 0 Q (F0 m 4 ls []) := by
  intro k
  induction k with
  | zero =>
    intro x1 x2  H locs ls hw hl hok
    exact gOk_iter0 hok
  | succ k hc =>
    intro x1 x2  H locs ls hw hl hok
    exact w_b_X6_hangingLoads_4 fx n x0 x1 x2 h0 hw hl (gOk_iter hok) hc hx0
set_option maxHeartbeats 4000000 in
set_option maxRecDepth 100000 in
theorem c_X6_hangingLoads (l : Launch) (X : gX) (τ : gτ) (n : Nat) (x0 : Nat) (G : gG) (h0 : gK τ x0 6) {r : Int32}  (h : f_X6_hangingLoads τ n x0 G = some r) : gM l X τ yX6_hangingLoads cX6_hangingLoads 3 (some .int) rm_X6_hangingLoads [.ref x0] G (some (.int r)) G := by
  refine g_body (by decide +kernel) (Nat.le_of_ble_eq_true rfl) ?_
  intro p e s m args below meth c ls fx hr hw hl
  have fx : gFx X p s m args meth c cX6_hangingLoads 3 RX6 := fx
  have hl : lv_has ls 3 [(0, .ref x0)] := hl
  have hok : gOk (f_X6_hangingLoads τ n x0 G) (fun q => q = r) := ⟨_, h, rfl⟩
  unfold f_X6_hangingLoads at hok
  show W p l e rm_X6_hangingLoads s m args below meth c s.heap [] 0 0 (MQ below (gQ X τ (some (.int r)) G) args s 0 0 (gFree X)) _
  refine lv_iconst (v := 0) fx.1 fx.2.1 dX6_hangingLoads_0 (by decide) ?_
  refine lv_istore_n (lv' := [(1, .int (0 : Int32)), (0, .ref x0)]) fx.1 fx.2.1 dX6_hangingLoads_1 rfl hl (by decide) rfl (fun ls hl => ?_)
  refine lv_iconst (v := 0) fx.1 fx.2.1 dX6_hangingLoads_2 (by decide) ?_
  refine lv_istore_n (lv' := [(2, .int (0 : Int32)), (1, .int (0 : Int32)), (0, .ref x0)]) fx.1 fx.2.1 dX6_hangingLoads_3 rfl hl (by decide) rfl (fun ls hl => ?_)
  refine w_l_X6_hangingLoads_4 fx n x0 h0 G ?_ n (0 : Int32) (0 : Int32)  _ _ _  hw (lv_sub hl [2, 1, 0] rfl) (gOk_bindK hok)
  intro z5  H locs ls hw hl hok
  have hok : gOk (ρ := Int32) (some (z5)) _ := hok
  refine lv_iload_n fx.1 fx.2.1 dX6_hangingLoads_30 rfl (lv_at hl 0 rfl) ?_
  cases gOk_some hok
  exact g_iret fx hw hr dX6_hangingLoads_31
theorem dX9_price_0 : decode cX9_price 0 = .ok (.aload_n 0, 1) := by decide +kernel
theorem dX9_price_1 : decode cX9_price 1 = .ok (.getfield 7, 3) := by decide +kernel
theorem dX9_price_4 : decode cX9_price 4 = .ok (.iconst 3, 1) := by decide +kernel
theorem dX9_price_5 : decode cX9_price 5 = .ok (.imul, 1) := by decide +kernel
theorem dX9_price_6 : decode cX9_price 6 = .ok (.aload_n 0, 1) := by decide +kernel
theorem dX9_price_7 : decode cX9_price 7 = .ok (.getfield 16, 3) := by decide +kernel
theorem dX9_price_10 : decode cX9_price 10 = .ok (.iconst 2, 1) := by decide +kernel
theorem dX9_price_11 : decode cX9_price 11 = .ok (.imul, 1) := by decide +kernel
theorem dX9_price_12 : decode cX9_price 12 = .ok (.isub, 1) := by decide +kernel
theorem dX9_price_13 : decode cX9_price 13 = .ok (.iconst 0, 1) := by decide +kernel
theorem dX9_price_14 : decode cX9_price 14 = .ok (.invokestatic 22, 3) := by decide +kernel
theorem dX9_price_17 : decode cX9_price 17 = .ok (.aload_n 0, 1) := by decide +kernel
theorem dX9_price_18 : decode cX9_price 18 = .ok (.getfield 19, 3) := by decide +kernel
theorem dX9_price_21 : decode cX9_price 21 = .ok (.iadd, 1) := by decide +kernel
theorem dX9_price_22 : decode cX9_price 22 = .ok (.ireturn, 1) := by decide +kernel
theorem lm_RX9_22 : Cond.methodLink RX9 22 Lib.Math.max.name ∈ wA := wA_t (wt2 (List.mem_of_getElem? (i := 232) (by decide +kernel))) (by decide +kernel)
def rm_X9_price : Room := { frames := 1, cells := 0, slots := 0, locals := 21 }
def f_X9_price (x0 : Nat) (G : gG) : Option (Int32) :=
  some ((gmax (((gi G 9 0 x0) * (3 : Int32)) - ((gi G 9 2 x0) * (2 : Int32))) (0 : Int32)) + (gi G 9 3 x0))
set_option maxHeartbeats 4000000 in
set_option maxRecDepth 100000 in
theorem c_X9_price (l : Launch) (X : gX) (τ : gτ) (x0 : Nat) (G : gG) (h0 : gK τ x0 9) {r : Int32}  (h : f_X9_price x0 G = some r) : gM l X τ yX9_price cX9_price 1 (some .int) rm_X9_price [.ref x0] G (some (.int r)) G := by
  refine g_body (by decide +kernel) (Nat.le_of_ble_eq_true rfl) ?_
  intro p e s m args below meth c ls fx hr hw hl
  have fx : gFx X p s m args meth c cX9_price 1 RX9 := fx
  have hl : lv_has ls 1 [(0, .ref x0)] := hl
  have hok : gOk (f_X9_price x0 G) (fun q => q = r) := ⟨_, h, rfl⟩
  unfold f_X9_price at hok
  show W p l e rm_X9_price s m args below meth c s.heap [] 0 0 (MQ below (gQ X τ (some (.int r)) G) args s 0 0 (gFree X)) _
  refine lv_aload_n fx.1 fx.2.1 dX9_price_0 rfl (lv_at hl 0 rfl) ?_
  refine g_geti fx hw h0 lf_RX9_7 rfl dX9_price_1 ?_
  refine lv_iconst (v := 3) fx.1 fx.2.1 dX9_price_4 (by decide) ?_
  refine lv_imul fx.1 fx.2.1 dX9_price_5 ?_
  refine lv_aload_n fx.1 fx.2.1 dX9_price_6 rfl (lv_at hl 0 rfl) ?_
  refine g_geti fx hw h0 lf_RX9_16 rfl dX9_price_7 ?_
  refine lv_iconst (v := 2) fx.1 fx.2.1 dX9_price_10 (by decide) ?_
  refine lv_imul fx.1 fx.2.1 dX9_price_11 ?_
  refine lv_isub fx.1 fx.2.1 dX9_price_12 ?_
  refine lv_iconst (v := 0) fx.1 fx.2.1 dX9_price_13 (by decide) ?_
  refine g_mmax fx hl.1 lm_RX9_22 lmst_max lm_init lmco_max ⟨Nat.le_of_ble_eq_true rfl, Nat.le_of_ble_eq_true rfl, Nat.le_of_ble_eq_true rfl, Nat.le_of_ble_eq_true rfl⟩ dX9_price_14 ?_
  refine lv_aload_n fx.1 fx.2.1 dX9_price_17 rfl (lv_at hl 0 rfl) ?_
  refine g_geti fx hw h0 lf_RX9_19 rfl dX9_price_18 ?_
  refine lv_iadd fx.1 fx.2.1 dX9_price_21 ?_
  cases gOk_some hok
  exact g_iret fx hw hr dX9_price_22
theorem dX6_priceOf_0 : decode cX6_priceOf 0 = .ok (.aload_n 1, 1) := by decide +kernel
theorem dX6_priceOf_1 : decode cX6_priceOf 1 = .ok (.getfield 135, 3) := by decide +kernel
theorem dX6_priceOf_4 : decode cX6_priceOf 4 = .ok (.ifCond .eq 5, 3) := by decide +kernel
theorem dX6_priceOf_7 : decode cX6_priceOf 7 = .ok (.iconst 0, 1) := by decide +kernel
theorem dX6_priceOf_8 : decode cX6_priceOf 8 = .ok (.ireturn, 1) := by decide +kernel
theorem dX6_priceOf_9 : decode cX6_priceOf 9 = .ok (.aload_n 0, 1) := by decide +kernel
theorem dX6_priceOf_10 : decode cX6_priceOf 10 = .ok (.aload_n 1, 1) := by decide +kernel
theorem dX6_priceOf_11 : decode cX6_priceOf 11 = .ok (.getfield 126, 3) := by decide +kernel
theorem dX6_priceOf_14 : decode cX6_priceOf 14 = .ok (.invokevirtual 98, 3) := by decide +kernel
theorem dX6_priceOf_17 : decode cX6_priceOf 17 = .ok (.invokevirtual 138, 3) := by decide +kernel
theorem dX6_priceOf_20 : decode cX6_priceOf 20 = .ok (.aload_n 0, 1) := by decide +kernel
theorem dX6_priceOf_21 : decode cX6_priceOf 21 = .ok (.aload_n 1, 1) := by decide +kernel
theorem dX6_priceOf_22 : decode cX6_priceOf 22 = .ok (.getfield 129, 3) := by decide +kernel
theorem dX6_priceOf_25 : decode cX6_priceOf 25 = .ok (.invokevirtual 98, 3) := by decide +kernel
theorem dX6_priceOf_28 : decode cX6_priceOf 28 = .ok (.invokevirtual 138, 3) := by decide +kernel
theorem dX6_priceOf_31 : decode cX6_priceOf 31 = .ok (.iadd, 1) := by decide +kernel
theorem dX6_priceOf_32 : decode cX6_priceOf 32 = .ok (.aload_n 0, 1) := by decide +kernel
theorem dX6_priceOf_33 : decode cX6_priceOf 33 = .ok (.aload_n 1, 1) := by decide +kernel
theorem dX6_priceOf_34 : decode cX6_priceOf 34 = .ok (.getfield 132, 3) := by decide +kernel
theorem dX6_priceOf_37 : decode cX6_priceOf 37 = .ok (.invokevirtual 98, 3) := by decide +kernel
theorem dX6_priceOf_40 : decode cX6_priceOf 40 = .ok (.invokevirtual 138, 3) := by decide +kernel
theorem dX6_priceOf_43 : decode cX6_priceOf 43 = .ok (.iadd, 1) := by decide +kernel
theorem dX6_priceOf_44 : decode cX6_priceOf 44 = .ok (.istore_n 2, 1) := by decide +kernel
theorem dX6_priceOf_45 : decode cX6_priceOf 45 = .ok (.iload_n 2, 1) := by decide +kernel
theorem dX6_priceOf_46 : decode cX6_priceOf 46 = .ok (.aload_n 1, 1) := by decide +kernel
theorem dX6_priceOf_47 : decode cX6_priceOf 47 = .ok (.getfield 116, 3) := by decide +kernel
theorem dX6_priceOf_50 : decode cX6_priceOf 50 = .ok (.imul, 1) := by decide +kernel
theorem dX6_priceOf_51 : decode cX6_priceOf 51 = .ok (.bipush 10, 2) := by decide +kernel
theorem dX6_priceOf_53 : decode cX6_priceOf 53 = .ok (.idiv, 1) := by decide +kernel
theorem dX6_priceOf_54 : decode cX6_priceOf 54 = .ok (.ireturn, 1) := by decide +kernel
theorem lv_RX6_138 : gLv RX6 138 RX9 yX9_price cX9_price 1 (some .int) 0 := gLv_of (wA_t (wt5 (List.mem_of_getElem? (i := 70) (by decide +kernel))) (by decide +kernel)) (wA_t (wt5 (List.mem_of_getElem? (i := 23) (by decide +kernel))) (by decide +kernel)) (wA_t (wt5 (List.mem_of_getElem? (i := 24) (by decide +kernel))) (by decide +kernel)) (wA_t (wt1 (List.mem_of_getElem? (i := 8) (by decide +kernel))) (by decide +kernel)) (wA_t (wt5 (List.mem_of_getElem? (i := 25) (by decide +kernel))) (by decide +kernel)) ⟨rfl, by decide +kernel, by decide +kernel, by decide +kernel⟩
def rm_X6_priceOf : Room := { frames := 2, cells := 0, slots := 0, locals := 41 }
def f_X6_priceOf (τ : gτ) (x0 : Nat) (x1 : Nat) (G : gG) : Option (Int32) :=
  if (gi G 5 9 x1) = 0 then ((f_X6_yarnAt τ x0 (gi G 5 0 x1) G).bind fun a1 =>
  gchk (gkd τ a1 9) <|
  (f_X9_price a1 G).bind fun v2 =>
  (f_X6_yarnAt τ x0 (gi G 5 1 x1) G).bind fun a3 =>
  gchk (gkd τ a3 9) <|
  (f_X9_price a3 G).bind fun v4 =>
  (f_X6_yarnAt τ x0 (gi G 5 2 x1) G).bind fun a5 =>
  gchk (gkd τ a5 9) <|
  (f_X9_price a5 G).bind fun v6 =>
  gLet ((v2 + v4) + v6) fun v7 =>
  some ((v7 * (gi G 5 3 x1)) / (10 : Int32)))
  else (some (0))
set_option maxHeartbeats 4000000 in
set_option maxRecDepth 100000 in
theorem c_X6_priceOf (l : Launch) (X : gX) (τ : gτ) (x0 : Nat) (x1 : Nat) (G : gG) (h0 : gK τ x0 6) (h1 : gK τ x1 5) {r : Int32}  (h : f_X6_priceOf τ x0 x1 G = some r) : gM l X τ yX6_priceOf cX6_priceOf 3 (some .int) rm_X6_priceOf [.ref x0, .ref x1] G (some (.int r)) G := by
  refine g_body (by decide +kernel) (Nat.le_of_ble_eq_true rfl) ?_
  intro p e s m args below meth c ls fx hr hw hl
  have fx : gFx X p s m args meth c cX6_priceOf 3 RX6 := fx
  have hl : lv_has ls 3 [(0, .ref x0), (1, .ref x1)] := hl
  have hok : gOk (f_X6_priceOf τ x0 x1 G) (fun q => q = r) := ⟨_, h, rfl⟩
  unfold f_X6_priceOf at hok
  show W p l e rm_X6_priceOf s m args below meth c s.heap [] 0 0 (MQ below (gQ X τ (some (.int r)) G) args s 0 0 (gFree X)) _
  refine lv_aload_n fx.1 fx.2.1 dX6_priceOf_0 rfl (lv_at hl 1 rfl) ?_
  refine g_geti fx hw h1 lf_RX6_135 rfl dX6_priceOf_1 ?_
  refine g_if_eq (tgt := 9) fx dX6_priceOf_4 (by decide) hok (fun hok => ?_) (fun hok => ?_)
  · refine lv_aload_n fx.1 fx.2.1 dX6_priceOf_9 rfl (lv_at hl 0 rfl) ?_
    refine lv_aload_n fx.1 fx.2.1 dX6_priceOf_10 rfl (lv_at hl 1 rfl) ?_
    refine g_geti fx hw h1 lf_RX6_126 rfl dX6_priceOf_11 ?_
    obtain ⟨a1, hf, hok⟩ := gOk_bind hok
    refine g_callV0 (κ := 6) fx hw (c_X6_yarnAt l X τ x0 (gi G 5 0 x1) G h0 hf) lv_RX6_98 ⟨rfl, rfl⟩ rfl rfl h0 rfl hl.1 rfl ⟨Nat.le_of_ble_eq_true rfl, Nat.le_of_ble_eq_true rfl⟩ (Nat.le_of_ble_eq_true rfl) ⟨Nat.le_of_ble_eq_true rfl, Nat.le_of_ble_eq_true rfl⟩ dX6_priceOf_14 (fun H locs hw => ?_)
    obtain ⟨h_a1, hok⟩ := gOk_chk hok
    have h_a1 : gK τ a1 9 := gkd_K h_a1
    obtain ⟨v2, hf, hok⟩ := gOk_bind hok
    refine g_callV0 (κ := 9) fx hw (c_X9_price l X τ a1 G h_a1 hf) lv_RX6_138 ⟨rfl, rfl⟩ rfl rfl h_a1 rfl hl.1 rfl ⟨Nat.le_of_ble_eq_true rfl, Nat.le_of_ble_eq_true rfl⟩ (Nat.le_of_ble_eq_true rfl) ⟨Nat.le_of_ble_eq_true rfl, Nat.le_of_ble_eq_true rfl⟩ dX6_priceOf_17 (fun H locs hw => ?_)
    refine lv_aload_n fx.1 fx.2.1 dX6_priceOf_20 rfl (lv_at hl 0 rfl) ?_
    refine lv_aload_n fx.1 fx.2.1 dX6_priceOf_21 rfl (lv_at hl 1 rfl) ?_
    refine g_geti fx hw h1 lf_RX6_129 rfl dX6_priceOf_22 ?_
    obtain ⟨a3, hf, hok⟩ := gOk_bind hok
    refine g_callV0 (κ := 6) fx hw (c_X6_yarnAt l X τ x0 (gi G 5 1 x1) G h0 hf) lv_RX6_98 ⟨rfl, rfl⟩ rfl rfl h0 rfl hl.1 rfl ⟨Nat.le_of_ble_eq_true rfl, Nat.le_of_ble_eq_true rfl⟩ (Nat.le_of_ble_eq_true rfl) ⟨Nat.le_of_ble_eq_true rfl, Nat.le_of_ble_eq_true rfl⟩ dX6_priceOf_25 (fun H locs hw => ?_)
    obtain ⟨h_a3, hok⟩ := gOk_chk hok
    have h_a3 : gK τ a3 9 := gkd_K h_a3
    obtain ⟨v4, hf, hok⟩ := gOk_bind hok
    refine g_callV0 (κ := 9) fx hw (c_X9_price l X τ a3 G h_a3 hf) lv_RX6_138 ⟨rfl, rfl⟩ rfl rfl h_a3 rfl hl.1 rfl ⟨Nat.le_of_ble_eq_true rfl, Nat.le_of_ble_eq_true rfl⟩ (Nat.le_of_ble_eq_true rfl) ⟨Nat.le_of_ble_eq_true rfl, Nat.le_of_ble_eq_true rfl⟩ dX6_priceOf_28 (fun H locs hw => ?_)
    refine lv_iadd fx.1 fx.2.1 dX6_priceOf_31 ?_
    refine lv_aload_n fx.1 fx.2.1 dX6_priceOf_32 rfl (lv_at hl 0 rfl) ?_
    refine lv_aload_n fx.1 fx.2.1 dX6_priceOf_33 rfl (lv_at hl 1 rfl) ?_
    refine g_geti fx hw h1 lf_RX6_132 rfl dX6_priceOf_34 ?_
    obtain ⟨a5, hf, hok⟩ := gOk_bind hok
    refine g_callV0 (κ := 6) fx hw (c_X6_yarnAt l X τ x0 (gi G 5 2 x1) G h0 hf) lv_RX6_98 ⟨rfl, rfl⟩ rfl rfl h0 rfl hl.1 rfl ⟨Nat.le_of_ble_eq_true rfl, Nat.le_of_ble_eq_true rfl⟩ (Nat.le_of_ble_eq_true rfl) ⟨Nat.le_of_ble_eq_true rfl, Nat.le_of_ble_eq_true rfl⟩ dX6_priceOf_37 (fun H locs hw => ?_)
    obtain ⟨h_a5, hok⟩ := gOk_chk hok
    have h_a5 : gK τ a5 9 := gkd_K h_a5
    obtain ⟨v6, hf, hok⟩ := gOk_bind hok
    refine g_callV0 (κ := 9) fx hw (c_X9_price l X τ a5 G h_a5 hf) lv_RX6_138 ⟨rfl, rfl⟩ rfl rfl h_a5 rfl hl.1 rfl ⟨Nat.le_of_ble_eq_true rfl, Nat.le_of_ble_eq_true rfl⟩ (Nat.le_of_ble_eq_true rfl) ⟨Nat.le_of_ble_eq_true rfl, Nat.le_of_ble_eq_true rfl⟩ dX6_priceOf_40 (fun H locs hw => ?_)
    refine lv_iadd fx.1 fx.2.1 dX6_priceOf_43 ?_
    refine g_leti hok (fun v7 hok => ?_)
    refine lv_istore_n (lv' := [(2, .int v7), (0, .ref x0), (1, .ref x1)]) fx.1 fx.2.1 dX6_priceOf_44 rfl hl (by decide) rfl (fun ls hl => ?_)
    refine lv_iload_n fx.1 fx.2.1 dX6_priceOf_45 rfl (lv_at hl 0 rfl) ?_
    refine lv_aload_n fx.1 fx.2.1 dX6_priceOf_46 rfl (lv_at hl 2 rfl) ?_
    refine g_geti fx hw h1 lf_RX6_116 rfl dX6_priceOf_47 ?_
    refine lv_imul fx.1 fx.2.1 dX6_priceOf_50 ?_
    refine lv_bipush (v := 10) fx.1 fx.2.1 dX6_priceOf_51 (by decide) ?_
    refine lv_idiv fx.1 fx.2.1 dX6_priceOf_53 (by decide) ?_
    cases gOk_some hok
    exact g_iret fx hw hr dX6_priceOf_54
  · refine lv_iconst (v := 0) fx.1 fx.2.1 dX6_priceOf_7 (by decide) ?_
    cases gOk_some hok
    exact g_iret fx hw hr dX6_priceOf_8
theorem dX6_pricesOf_0 : decode cX6_pricesOf 0 = .ok (.iconst 0, 1) := by decide +kernel
theorem dX6_pricesOf_1 : decode cX6_pricesOf 1 = .ok (.istore_n 2, 1) := by decide +kernel
theorem dX6_pricesOf_2 : decode cX6_pricesOf 2 = .ok (.iconst 0, 1) := by decide +kernel
theorem dX6_pricesOf_3 : decode cX6_pricesOf 3 = .ok (.istore_n 3, 1) := by decide +kernel
theorem dX6_pricesOf_4 : decode cX6_pricesOf 4 = .ok (.iload_n 3, 1) := by decide +kernel
theorem dX6_pricesOf_5 : decode cX6_pricesOf 5 = .ok (.aload_n 0, 1) := by decide +kernel
theorem dX6_pricesOf_6 : decode cX6_pricesOf 6 = .ok (.getfield 50, 3) := by decide +kernel
theorem dX6_pricesOf_9 : decode cX6_pricesOf 9 = .ok (.if_icmp .ge 31, 3) := by decide +kernel
theorem dX6_pricesOf_12 : decode cX6_pricesOf 12 = .ok (.iload_n 1, 1) := by decide +kernel
theorem dX6_pricesOf_13 : decode cX6_pricesOf 13 = .ok (.iload_n 3, 1) := by decide +kernel
theorem dX6_pricesOf_14 : decode cX6_pricesOf 14 = .ok (.ishr, 1) := by decide +kernel
theorem dX6_pricesOf_15 : decode cX6_pricesOf 15 = .ok (.iconst 1, 1) := by decide +kernel
theorem dX6_pricesOf_16 : decode cX6_pricesOf 16 = .ok (.iand, 1) := by decide +kernel
theorem dX6_pricesOf_17 : decode cX6_pricesOf 17 = .ok (.iconst 1, 1) := by decide +kernel
theorem dX6_pricesOf_18 : decode cX6_pricesOf 18 = .ok (.if_icmp .ne 16, 3) := by decide +kernel
theorem dX6_pricesOf_21 : decode cX6_pricesOf 21 = .ok (.iload_n 2, 1) := by decide +kernel
theorem dX6_pricesOf_22 : decode cX6_pricesOf 22 = .ok (.aload_n 0, 1) := by decide +kernel
theorem dX6_pricesOf_23 : decode cX6_pricesOf 23 = .ok (.aload_n 0, 1) := by decide +kernel
theorem dX6_pricesOf_24 : decode cX6_pricesOf 24 = .ok (.getfield 19, 3) := by decide +kernel
theorem dX6_pricesOf_27 : decode cX6_pricesOf 27 = .ok (.iload_n 3, 1) := by decide +kernel
theorem dX6_pricesOf_28 : decode cX6_pricesOf 28 = .ok (.aaload, 1) := by decide +kernel
theorem dX6_pricesOf_29 : decode cX6_pricesOf 29 = .ok (.invokevirtual 142, 3) := by decide +kernel
theorem dX6_pricesOf_32 : decode cX6_pricesOf 32 = .ok (.iadd, 1) := by decide +kernel
theorem dX6_pricesOf_33 : decode cX6_pricesOf 33 = .ok (.istore_n 2, 1) := by decide +kernel
theorem dX6_pricesOf_34 : decode cX6_pricesOf 34 = .ok (.iinc 3 1, 3) := by decide +kernel
theorem dX6_pricesOf_37 : decode cX6_pricesOf 37 = .ok (.goto (-33), 3) := by decide +kernel
theorem dX6_pricesOf_40 : decode cX6_pricesOf 40 = .ok (.iload_n 2, 1) := by decide +kernel
theorem dX6_pricesOf_41 : decode cX6_pricesOf 41 = .ok (.ireturn, 1) := by decide +kernel
theorem lv_RX6_142 : gLv RX6 142 RX6 yX6_priceOf cX6_priceOf 3 (some .int) 1 := gLv_of (wA_t (wt6 (List.mem_of_getElem? (i := 145) (by decide +kernel))) (by decide +kernel)) (wA_t (wt5 (List.mem_of_getElem? (i := 67) (by decide +kernel))) (by decide +kernel)) (wA_t (wt5 (List.mem_of_getElem? (i := 68) (by decide +kernel))) (by decide +kernel)) (wA_t (wt1 (List.mem_of_getElem? (i := 6) (by decide +kernel))) (by decide +kernel)) (wA_t (wt5 (List.mem_of_getElem? (i := 69) (by decide +kernel))) (by decide +kernel)) ⟨rfl, by decide +kernel, by decide +kernel, by decide +kernel⟩
def rm_X6_pricesOf : Room := { frames := 3, cells := 0, slots := 0, locals := 63 }
def b_X6_pricesOf_4 (τ : gτ) (n : Nat) (x0 : Nat) (x1 : Int32) (x2 : Int32) (x3 : Int32) (G : gG) : Option ((Int32 × Int32) ⊕ ((Int32))) :=
  if (gi G 6 5 x0) ≤ x3 then (some (.inr x2))
  else (if ((x1 >>> (x3 &&& 31)) &&& (1 : Int32)) = (1 : Int32) then ((gr G 6 1 x0).bind fun a1 =>
  gchk (gIn x3 (gn τ a1)) <| (gq G a1 (Int32.toNatClampNeg x3)).bind fun a2 =>
  (f_X6_priceOf τ x0 a2 G).bind fun v3 =>
  gLet (x2 + v3) fun v4 =>
  gLet (x3 + 1) fun v5 =>
  some (.inl (v4, v5)))
  else (gLet (x3 + 1) fun v6 =>
  some (.inl (x2, v6))))
def l_X6_pricesOf_4 (τ : gτ) (n : Nat) (x0 : Nat) (x1 : Int32) (x2 : Int32) (x3 : Int32) (G : gG) : Option ((Int32)) :=
  gIter (fun (q : Int32 × Int32) => b_X6_pricesOf_4 τ n x0 x1 q.1 q.2 G) n (x2, x3)
def f_X6_pricesOf (τ : gτ) (n : Nat) (x0 : Nat) (x1 : Int32) (G : gG) : Option (Int32) :=
  (l_X6_pricesOf_4 τ n x0 x1 (0 : Int32) (0 : Int32) G).bind fun q => gLet q fun z7 => 
  some (z7)
set_option maxHeartbeats 4000000 in
set_option maxRecDepth 100000 in
theorem w_b_X6_pricesOf_4 {X : gX} {τ : gτ} {p : Program} {l : Launch} {e : Env} {s : State} {m : MethodId} {args : Array Value} {below : List Frame} {meth : Method} {c : Code} (fx : gFx X p s m args meth c cX6_pricesOf 4 RX6) (n : Nat) (x0 : Nat) (x1 : Int32) (x2 : Int32) (x3 : Int32) (h0 : gK τ x0 6) {Q : State → Prop} {K : ((Int32 × Int32) ⊕ ((Int32))) → Prop} {G : gG} {H : Heap} {locs : List Loc} {ls : Array Slot} (hw : gHw X τ G H locs) (hl : lv_has ls 4 [(0, .ref x0), (1, .int x1), (2, .int x2), (3, .int x3)]) (hok : gOk (b_X6_pricesOf_4 τ n x0 x1 x2 x3 G) K) (hc : ∀ (y2 : Int32) (y3 : Int32) (H : Heap) (locs : List Loc) (ls : Array Slot), gHw X τ G H locs → lv_has ls 4 [(0, .ref x0), (1, .int x1), (2, .int y2), (3, .int y3)] → K (.inl (y2, y3)) → W p l e rm_X6_pricesOf s m args below meth c H locs 0 0 Q (F0 m 4 ls [])) (hx0 : ∀ (y2 : Int32) (H : Heap) (locs : List Loc) (ls : Array Slot), gHw X τ G H locs → lv_has ls 4 [(2, .int y2)] → K (.inr y2) → W p l e rm_X6_pricesOf s m args below meth c H locs 0 0 Q (F0 m 40 ls [])) : W p l e rm_X6_pricesOf s m args below meth c H locs 0 0 Q (F0 m 4 ls []) := by
  unfold b_X6_pricesOf_4 at hok
  refine lv_iload_n fx.1 fx.2.1 dX6_pricesOf_4 rfl (lv_at hl 3 rfl) ?_
  refine lv_aload_n fx.1 fx.2.1 dX6_pricesOf_5 rfl (lv_at hl 0 rfl) ?_
  refine g_geti fx hw h0 lf_RX6_50 rfl dX6_pricesOf_6 ?_
  refine g_icmp_ge (tgt := 40) fx dX6_pricesOf_9 (by decide) hok (fun hok => ?_) (fun hok => ?_)
  · exact hx0 x2  _ _ _  hw (lv_sub hl [2] rfl) (gOk_some hok)
  · refine lv_iload_n fx.1 fx.2.1 dX6_pricesOf_12 rfl (lv_at hl 1 rfl) ?_
    refine lv_iload_n fx.1 fx.2.1 dX6_pricesOf_13 rfl (lv_at hl 3 rfl) ?_
    refine lv_ishr fx.1 fx.2.1 dX6_pricesOf_14 ?_
    refine lv_iconst (v := 1) fx.1 fx.2.1 dX6_pricesOf_15 (by decide) ?_
    refine lv_iand fx.1 fx.2.1 dX6_pricesOf_16 ?_
    refine lv_iconst (v := 1) fx.1 fx.2.1 dX6_pricesOf_17 (by decide) ?_
    refine g_icmp_ne (tgt := 34) fx dX6_pricesOf_18 (by decide) hok (fun hok => ?_) (fun hok => ?_)
    · refine lv_iload_n fx.1 fx.2.1 dX6_pricesOf_21 rfl (lv_at hl 2 rfl) ?_
      refine lv_aload_n fx.1 fx.2.1 dX6_pricesOf_22 rfl (lv_at hl 0 rfl) ?_
      refine lv_aload_n fx.1 fx.2.1 dX6_pricesOf_23 rfl (lv_at hl 0 rfl) ?_
      refine g_getr fx hw h0 lf_RX6_19 rfl dX6_pricesOf_24 hok (fun a1 h_a1 hok => ?_)
      refine lv_iload_n fx.1 fx.2.1 dX6_pricesOf_27 rfl (lv_at hl 3 rfl) ?_
      refine g_aald fx hw 15 3 h_a1 (by decide) (by decide) rfl (κ' := 5) rfl dX6_pricesOf_28 hok (fun a2 h_a2 hok => ?_)
      obtain ⟨v3, hf, hok⟩ := gOk_bind hok
      refine g_callV0 (κ := 6) fx hw (c_X6_priceOf l X τ x0 a2 G h0 h_a2 hf) lv_RX6_142 ⟨rfl, rfl⟩ rfl rfl h0 rfl hl.1 rfl ⟨Nat.le_of_ble_eq_true rfl, Nat.le_of_ble_eq_true rfl⟩ (Nat.le_of_ble_eq_true rfl) ⟨Nat.le_of_ble_eq_true rfl, Nat.le_of_ble_eq_true rfl⟩ dX6_pricesOf_29 (fun H locs hw => ?_)
      refine lv_iadd fx.1 fx.2.1 dX6_pricesOf_32 ?_
      refine g_leti hok (fun v4 hok => ?_)
      refine lv_istore_n (lv' := [(2, .int v4), (0, .ref x0), (1, .int x1), (3, .int x3)]) fx.1 fx.2.1 dX6_pricesOf_33 rfl hl (by decide) rfl (fun ls hl => ?_)
      obtain ⟨v5, e_v5, hok⟩ := gOk_let hok
      refine lv_iinc (v := v5) (lv' := [(3, .int v5), (2, .int v4), (0, .ref x0), (1, .int x1)]) fx.1 fx.2.1 dX6_pricesOf_34 hl (k := 3) rfl (by rw [e_v5]; rfl) (by decide) rfl (fun ls hl => ?_)
      refine lv_goto (tgt := 4) fx.1 fx.2.1 dX6_pricesOf_37 (by decide) ?_
      exact hc v4 v5  _ _ _  hw (lv_sub hl [2, 3, 1, 0] rfl) (gOk_some hok)
    · obtain ⟨v6, e_v6, hok⟩ := gOk_let hok
      refine lv_iinc (v := v6) (lv' := [(3, .int v6), (0, .ref x0), (1, .int x1), (2, .int x2)]) fx.1 fx.2.1 dX6_pricesOf_34 hl (k := 3) rfl (by rw [e_v6]; rfl) (by decide) rfl (fun ls hl => ?_)
      refine lv_goto (tgt := 4) fx.1 fx.2.1 dX6_pricesOf_37 (by decide) ?_
      exact hc x2 v6  _ _ _  hw (lv_sub hl [1, 2, 3, 0] rfl) (gOk_some hok)
theorem w_l_X6_pricesOf_4 {X : gX} {τ : gτ} {p : Program} {l : Launch} {e : Env} {s : State} {m : MethodId} {args : Array Value} {below : List Frame} {meth : Method} {c : Code} (fx : gFx X p s m args meth c cX6_pricesOf 4 RX6) (n : Nat) (x0 : Nat) (x1 : Int32) (h0 : gK τ x0 6) (G : gG) {Q : State → Prop} {K : ((Int32)) → Prop} (hx0 : ∀ (y2 : Int32) (H : Heap) (locs : List Loc) (ls : Array Slot), gHw X τ G H locs → lv_has ls 4 [(2, .int y2)] → K y2 → W p l e rm_X6_pricesOf s m args below meth c H locs 0 0 Q (F0 m 40 ls [])) : ∀ (k : Nat) (x2 : Int32) (x3 : Int32) (H : Heap) (locs : List Loc) (ls : Array Slot), gHw X τ G H locs → lv_has ls 4 [(0, .ref x0), (1, .int x1), (2, .int x2), (3, .int x3)] → gOk (gIter (fun (q : Int32 × Int32) => b_X6_pricesOf_4 τ n x0 x1 q.1 q.2 G) k (x2, x3)) K → W p l e rm_X6_pricesOf s m args below meth c H locs 0 0 Q (F0 m 4 ls []) := by
  intro k
  induction k with
  | zero =>
    intro x2 x3  H locs ls hw hl hok
    exact gOk_iter0 hok
  | succ k hc =>
    intro x2 x3  H locs ls hw hl hok
    exact w_b_X6_pricesOf_4 fx n x0 x1 x2 x3 h0 hw hl (gOk_iter hok) hc hx0
set_option maxHeartbeats 4000000 in
set_option maxRecDepth 100000 in
theorem c_X6_pricesOf (l : Launch) (X : gX) (τ : gτ) (n : Nat) (x0 : Nat) (x1 : Int32) (G : gG) (h0 : gK τ x0 6) {r : Int32}  (h : f_X6_pricesOf τ n x0 x1 G = some r) : gM l X τ yX6_pricesOf cX6_pricesOf 4 (some .int) rm_X6_pricesOf [.ref x0, .int x1] G (some (.int r)) G := by
  refine g_body (by decide +kernel) (Nat.le_of_ble_eq_true rfl) ?_
  intro p e s m args below meth c ls fx hr hw hl
  have fx : gFx X p s m args meth c cX6_pricesOf 4 RX6 := fx
  have hl : lv_has ls 4 [(0, .ref x0), (1, .int x1)] := hl
  have hok : gOk (f_X6_pricesOf τ n x0 x1 G) (fun q => q = r) := ⟨_, h, rfl⟩
  unfold f_X6_pricesOf at hok
  show W p l e rm_X6_pricesOf s m args below meth c s.heap [] 0 0 (MQ below (gQ X τ (some (.int r)) G) args s 0 0 (gFree X)) _
  refine lv_iconst (v := 0) fx.1 fx.2.1 dX6_pricesOf_0 (by decide) ?_
  refine lv_istore_n (lv' := [(2, .int (0 : Int32)), (0, .ref x0), (1, .int x1)]) fx.1 fx.2.1 dX6_pricesOf_1 rfl hl (by decide) rfl (fun ls hl => ?_)
  refine lv_iconst (v := 0) fx.1 fx.2.1 dX6_pricesOf_2 (by decide) ?_
  refine lv_istore_n (lv' := [(3, .int (0 : Int32)), (2, .int (0 : Int32)), (0, .ref x0), (1, .int x1)]) fx.1 fx.2.1 dX6_pricesOf_3 rfl hl (by decide) rfl (fun ls hl => ?_)
  refine w_l_X6_pricesOf_4 fx n x0 x1 h0 G ?_ n (0 : Int32) (0 : Int32)  _ _ _  hw (lv_sub hl [2, 3, 1, 0] rfl) (gOk_bindK hok)
  intro z7  H locs ls hw hl hok
  have hok : gOk (ρ := Int32) (some (z7)) _ := hok
  refine lv_iload_n fx.1 fx.2.1 dX6_pricesOf_40 rfl (lv_at hl 0 rfl) ?_
  cases gOk_some hok
  exact g_iret fx hw hr dX6_pricesOf_41
theorem dX6_isWinter_0 : decode cX6_isWinter 0 = .ok (.aload_n 0, 1) := by decide +kernel
theorem dX6_isWinter_1 : decode cX6_isWinter 1 = .ok (.getfield 74, 3) := by decide +kernel
theorem dX6_isWinter_4 : decode cX6_isWinter 4 = .ok (.iconst 4, 1) := by decide +kernel
theorem dX6_isWinter_5 : decode cX6_isWinter 5 = .ok (.irem, 1) := by decide +kernel
theorem dX6_isWinter_6 : decode cX6_isWinter 6 = .ok (.iconst 3, 1) := by decide +kernel
theorem dX6_isWinter_7 : decode cX6_isWinter 7 = .ok (.if_icmp .ne 7, 3) := by decide +kernel
theorem dX6_isWinter_10 : decode cX6_isWinter 10 = .ok (.iconst 1, 1) := by decide +kernel
theorem dX6_isWinter_11 : decode cX6_isWinter 11 = .ok (.goto 4, 3) := by decide +kernel
theorem dX6_isWinter_14 : decode cX6_isWinter 14 = .ok (.iconst 0, 1) := by decide +kernel
theorem dX6_isWinter_15 : decode cX6_isWinter 15 = .ok (.ireturn, 1) := by decide +kernel
def rm_X6_isWinter : Room := { frames := 0, cells := 0, slots := 0, locals := 0 }
def f_X6_isWinter (x0 : Nat) (G : gG) : Option (Int32) :=
  if ((gi G 6 10 x0) - (gi G 6 10 x0) / (4 : Int32) * (4 : Int32)) = (3 : Int32) then (some (1))
  else (some (0))
set_option maxHeartbeats 4000000 in
set_option maxRecDepth 100000 in
theorem c_X6_isWinter (l : Launch) (X : gX) (τ : gτ) (x0 : Nat) (G : gG) (h0 : gK τ x0 6) {r : Int32}  (h : f_X6_isWinter x0 G = some r) : gM l X τ yX6_isWinter cX6_isWinter 1 (some .boolean) rm_X6_isWinter [.ref x0] G (some (.int r)) G := by
  refine g_body (by decide +kernel) (Nat.le_of_ble_eq_true rfl) ?_
  intro p e s m args below meth c ls fx hr hw hl
  have fx : gFx X p s m args meth c cX6_isWinter 1 RX6 := fx
  have hl : lv_has ls 1 [(0, .ref x0)] := hl
  have hok : gOk (f_X6_isWinter x0 G) (fun q => q = r) := ⟨_, h, rfl⟩
  unfold f_X6_isWinter at hok
  show W p l e rm_X6_isWinter s m args below meth c s.heap [] 0 0 (MQ below (gQ X τ (some (.int r)) G) args s 0 0 (gFree X)) _
  refine lv_aload_n fx.1 fx.2.1 dX6_isWinter_0 rfl (lv_at hl 0 rfl) ?_
  refine g_geti fx hw h0 lf_RX6_74 rfl dX6_isWinter_1 ?_
  refine lv_iconst (v := 4) fx.1 fx.2.1 dX6_isWinter_4 (by decide) ?_
  refine lv_irem fx.1 fx.2.1 dX6_isWinter_5 (by decide) ?_
  refine lv_iconst (v := 3) fx.1 fx.2.1 dX6_isWinter_6 (by decide) ?_
  refine g_icmp_ne (tgt := 14) fx dX6_isWinter_7 (by decide) hok (fun hok => ?_) (fun hok => ?_)
  · refine lv_iconst (v := 1) fx.1 fx.2.1 dX6_isWinter_10 (by decide) ?_
    refine lv_goto (tgt := 15) fx.1 fx.2.1 dX6_isWinter_11 (by decide) ?_
    cases gOk_some hok
    exact g_zret fx hw hr (by decide) dX6_isWinter_15
  · refine lv_iconst (v := 0) fx.1 fx.2.1 dX6_isWinter_14 (by decide) ?_
    cases gOk_some hok
    exact g_zret fx hw hr (by decide) dX6_isWinter_15
theorem dX9_soundness_0 : decode cX9_soundness 0 = .ok (.aload_n 0, 1) := by decide +kernel
theorem dX9_soundness_1 : decode cX9_soundness 1 = .ok (.getfield 7, 3) := by decide +kernel
theorem dX9_soundness_4 : decode cX9_soundness 4 = .ok (.aload_n 0, 1) := by decide +kernel
theorem dX9_soundness_5 : decode cX9_soundness 5 = .ok (.getfield 16, 3) := by decide +kernel
theorem dX9_soundness_8 : decode cX9_soundness 8 = .ok (.isub, 1) := by decide +kernel
theorem dX9_soundness_9 : decode cX9_soundness 9 = .ok (.iconst 0, 1) := by decide +kernel
theorem dX9_soundness_10 : decode cX9_soundness 10 = .ok (.invokestatic 22, 3) := by decide +kernel
theorem dX9_soundness_13 : decode cX9_soundness 13 = .ok (.ireturn, 1) := by decide +kernel
def rm_X9_soundness : Room := { frames := 1, cells := 0, slots := 0, locals := 21 }
def f_X9_soundness (x0 : Nat) (G : gG) : Option (Int32) :=
  some (gmax ((gi G 9 0 x0) - (gi G 9 2 x0)) (0 : Int32))
set_option maxHeartbeats 4000000 in
set_option maxRecDepth 100000 in
theorem c_X9_soundness (l : Launch) (X : gX) (τ : gτ) (x0 : Nat) (G : gG) (h0 : gK τ x0 9) {r : Int32}  (h : f_X9_soundness x0 G = some r) : gM l X τ yX9_soundness cX9_soundness 1 (some .int) rm_X9_soundness [.ref x0] G (some (.int r)) G := by
  refine g_body (by decide +kernel) (Nat.le_of_ble_eq_true rfl) ?_
  intro p e s m args below meth c ls fx hr hw hl
  have fx : gFx X p s m args meth c cX9_soundness 1 RX9 := fx
  have hl : lv_has ls 1 [(0, .ref x0)] := hl
  have hok : gOk (f_X9_soundness x0 G) (fun q => q = r) := ⟨_, h, rfl⟩
  unfold f_X9_soundness at hok
  show W p l e rm_X9_soundness s m args below meth c s.heap [] 0 0 (MQ below (gQ X τ (some (.int r)) G) args s 0 0 (gFree X)) _
  refine lv_aload_n fx.1 fx.2.1 dX9_soundness_0 rfl (lv_at hl 0 rfl) ?_
  refine g_geti fx hw h0 lf_RX9_7 rfl dX9_soundness_1 ?_
  refine lv_aload_n fx.1 fx.2.1 dX9_soundness_4 rfl (lv_at hl 0 rfl) ?_
  refine g_geti fx hw h0 lf_RX9_16 rfl dX9_soundness_5 ?_
  refine lv_isub fx.1 fx.2.1 dX9_soundness_8 ?_
  refine lv_iconst (v := 0) fx.1 fx.2.1 dX9_soundness_9 (by decide) ?_
  refine g_mmax fx hl.1 lm_RX9_22 lmst_max lm_init lmco_max ⟨Nat.le_of_ble_eq_true rfl, Nat.le_of_ble_eq_true rfl, Nat.le_of_ble_eq_true rfl, Nat.le_of_ble_eq_true rfl⟩ dX9_soundness_10 ?_
  cases gOk_some hok
  exact g_iret fx hw hr dX9_soundness_13
theorem dX6_bearing_0 : decode cX6_bearing 0 = .ok (.aload_n 1, 1) := by decide +kernel
theorem dX6_bearing_1 : decode cX6_bearing 1 = .ok (.getfield 135, 3) := by decide +kernel
theorem dX6_bearing_4 : decode cX6_bearing 4 = .ok (.ifCond .eq 5, 3) := by decide +kernel
theorem dX6_bearing_7 : decode cX6_bearing 7 = .ok (.iconst 0, 1) := by decide +kernel
theorem dX6_bearing_8 : decode cX6_bearing 8 = .ok (.ireturn, 1) := by decide +kernel
theorem dX6_bearing_9 : decode cX6_bearing 9 = .ok (.aload_n 0, 1) := by decide +kernel
theorem dX6_bearing_10 : decode cX6_bearing 10 = .ok (.aload_n 1, 1) := by decide +kernel
theorem dX6_bearing_11 : decode cX6_bearing 11 = .ok (.getfield 126, 3) := by decide +kernel
theorem dX6_bearing_14 : decode cX6_bearing 14 = .ok (.invokevirtual 98, 3) := by decide +kernel
theorem dX6_bearing_17 : decode cX6_bearing 17 = .ok (.astore_n 3, 1) := by decide +kernel
theorem dX6_bearing_18 : decode cX6_bearing 18 = .ok (.aload_n 0, 1) := by decide +kernel
theorem dX6_bearing_19 : decode cX6_bearing 19 = .ok (.aload_n 1, 1) := by decide +kernel
theorem dX6_bearing_20 : decode cX6_bearing 20 = .ok (.getfield 129, 3) := by decide +kernel
theorem dX6_bearing_23 : decode cX6_bearing 23 = .ok (.invokevirtual 98, 3) := by decide +kernel
theorem dX6_bearing_26 : decode cX6_bearing 26 = .ok (.astore 4, 2) := by decide +kernel
theorem dX6_bearing_28 : decode cX6_bearing 28 = .ok (.aload_n 0, 1) := by decide +kernel
theorem dX6_bearing_29 : decode cX6_bearing 29 = .ok (.aload_n 1, 1) := by decide +kernel
theorem dX6_bearing_30 : decode cX6_bearing 30 = .ok (.getfield 132, 3) := by decide +kernel
theorem dX6_bearing_33 : decode cX6_bearing 33 = .ok (.invokevirtual 98, 3) := by decide +kernel
theorem dX6_bearing_36 : decode cX6_bearing 36 = .ok (.astore 5, 2) := by decide +kernel
theorem dX6_bearing_38 : decode cX6_bearing 38 = .ok (.aload_n 2, 1) := by decide +kernel
theorem dX6_bearing_39 : decode cX6_bearing 39 = .ok (.aload_n 1, 1) := by decide +kernel
theorem dX6_bearing_40 : decode cX6_bearing 40 = .ok (.aload_n 3, 1) := by decide +kernel
theorem dX6_bearing_41 : decode cX6_bearing 41 = .ok (.aload 4, 2) := by decide +kernel
theorem dX6_bearing_43 : decode cX6_bearing 43 = .ok (.aload 5, 2) := by decide +kernel
theorem dX6_bearing_45 : decode cX6_bearing 45 = .ok (.aload_n 0, 1) := by decide +kernel
theorem dX6_bearing_46 : decode cX6_bearing 46 = .ok (.invokevirtual 146, 3) := by decide +kernel
theorem dX6_bearing_49 : decode cX6_bearing 49 = .ok (.invokevirtual 150, 3) := by decide +kernel
theorem dX6_bearing_52 : decode cX6_bearing 52 = .ok (.aload_n 3, 1) := by decide +kernel
theorem dX6_bearing_53 : decode cX6_bearing 53 = .ok (.invokevirtual 156, 3) := by decide +kernel
theorem dX6_bearing_56 : decode cX6_bearing 56 = .ok (.aload 4, 2) := by decide +kernel
theorem dX6_bearing_58 : decode cX6_bearing 58 = .ok (.invokevirtual 156, 3) := by decide +kernel
theorem dX6_bearing_61 : decode cX6_bearing 61 = .ok (.iadd, 1) := by decide +kernel
theorem dX6_bearing_62 : decode cX6_bearing 62 = .ok (.aload 5, 2) := by decide +kernel
theorem dX6_bearing_64 : decode cX6_bearing 64 = .ok (.invokevirtual 156, 3) := by decide +kernel
theorem dX6_bearing_67 : decode cX6_bearing 67 = .ok (.iadd, 1) := by decide +kernel
theorem dX6_bearing_68 : decode cX6_bearing 68 = .ok (.aload_n 2, 1) := by decide +kernel
theorem dX6_bearing_69 : decode cX6_bearing 69 = .ok (.iconst 0, 1) := by decide +kernel
theorem dX6_bearing_70 : decode cX6_bearing 70 = .ok (.invokevirtual 159, 3) := by decide +kernel
theorem dX6_bearing_73 : decode cX6_bearing 73 = .ok (.iadd, 1) := by decide +kernel
theorem dX6_bearing_74 : decode cX6_bearing 74 = .ok (.aload_n 1, 1) := by decide +kernel
theorem dX6_bearing_75 : decode cX6_bearing 75 = .ok (.getfield 163, 3) := by decide +kernel
theorem dX6_bearing_78 : decode cX6_bearing 78 = .ok (.bipush 10, 2) := by decide +kernel
theorem dX6_bearing_80 : decode cX6_bearing 80 = .ok (.idiv, 1) := by decide +kernel
theorem dX6_bearing_81 : decode cX6_bearing 81 = .ok (.isub, 1) := by decide +kernel
theorem dX6_bearing_82 : decode cX6_bearing 82 = .ok (.istore 6, 2) := by decide +kernel
theorem dX6_bearing_84 : decode cX6_bearing 84 = .ok (.iload 6, 2) := by decide +kernel
theorem dX6_bearing_86 : decode cX6_bearing 86 = .ok (.iconst 0, 1) := by decide +kernel
theorem dX6_bearing_87 : decode cX6_bearing 87 = .ok (.invokestatic 166, 3) := by decide +kernel
theorem dX6_bearing_90 : decode cX6_bearing 90 = .ok (.aload_n 1, 1) := by decide +kernel
theorem dX6_bearing_91 : decode cX6_bearing 91 = .ok (.getfield 169, 3) := by decide +kernel
theorem dX6_bearing_94 : decode cX6_bearing 94 = .ok (.imul, 1) := by decide +kernel
theorem dX6_bearing_95 : decode cX6_bearing 95 = .ok (.ireturn, 1) := by decide +kernel
theorem lv_RX6_146 : gLv RX6 146 RX6 yX6_isWinter cX6_isWinter 1 (some .boolean) 0 := gLv_of (wA_t (wt2 (List.mem_of_getElem? (i := 208) (by decide +kernel))) (by decide +kernel)) (wA_t (wt2 (List.mem_of_getElem? (i := 209) (by decide +kernel))) (by decide +kernel)) (wA_t (wt2 (List.mem_of_getElem? (i := 210) (by decide +kernel))) (by decide +kernel)) (wA_t (wt1 (List.mem_of_getElem? (i := 6) (by decide +kernel))) (by decide +kernel)) (wA_t (wt2 (List.mem_of_getElem? (i := 211) (by decide +kernel))) (by decide +kernel)) ⟨rfl, by decide +kernel, by decide +kernel, by decide +kernel⟩
theorem lv_RX6_150 : gLv RX6 150 RX1 yX1_regard cX1_regard 6 none 5 := gLv_of (wA_t (wt2 (List.mem_of_getElem? (i := 212) (by decide +kernel))) (by decide +kernel)) (wA_t (wt2 (List.mem_of_getElem? (i := 213) (by decide +kernel))) (by decide +kernel)) (wA_t (wt2 (List.mem_of_getElem? (i := 214) (by decide +kernel))) (by decide +kernel)) (wA_t (wt1 (List.mem_of_getElem? (i := 11) (by decide +kernel))) (by decide +kernel)) (wA_t (wt2 (List.mem_of_getElem? (i := 215) (by decide +kernel))) (by decide +kernel)) ⟨rfl, by decide +kernel, by decide +kernel, by decide +kernel⟩
theorem lv_RX6_156 : gLv RX6 156 RX9 yX9_soundness cX9_soundness 1 (some .int) 0 := gLv_of (wA_t (wt2 (List.mem_of_getElem? (i := 228) (by decide +kernel))) (by decide +kernel)) (wA_t (wt2 (List.mem_of_getElem? (i := 229) (by decide +kernel))) (by decide +kernel)) (wA_t (wt2 (List.mem_of_getElem? (i := 230) (by decide +kernel))) (by decide +kernel)) (wA_t (wt1 (List.mem_of_getElem? (i := 8) (by decide +kernel))) (by decide +kernel)) (wA_t (wt2 (List.mem_of_getElem? (i := 231) (by decide +kernel))) (by decide +kernel)) ⟨rfl, by decide +kernel, by decide +kernel, by decide +kernel⟩
theorem lv_RX6_159 : gLv RX6 159 RX1 yX1_sumOfLines cX1_sumOfLines 5 (some .int) 1 := gLv_of (wA_t (wt2 (List.mem_of_getElem? (i := 233) (by decide +kernel))) (by decide +kernel)) (wA_t (wt2 (List.mem_of_getElem? (i := 234) (by decide +kernel))) (by decide +kernel)) (wA_t (wt2 (List.mem_of_getElem? (i := 235) (by decide +kernel))) (by decide +kernel)) (wA_t (wt1 (List.mem_of_getElem? (i := 11) (by decide +kernel))) (by decide +kernel)) (wA_t (wt2 (List.mem_of_getElem? (i := 236) (by decide +kernel))) (by decide +kernel)) ⟨rfl, by decide +kernel, by decide +kernel, by decide +kernel⟩
theorem lf_RX6_163 : gLf RX6 163 5 5 := ⟨(RX5, TX5, 10), rfl, by decide, wA_t (wt1 (List.mem_of_getElem? (i := 185) (by decide +kernel))) (by decide +kernel), rfl⟩
theorem lm_RX6_166 : Cond.methodLink RX6 166 Lib.Math.max.name ∈ wA := wA_t (wt3 (List.mem_of_getElem? (i := 8) (by decide +kernel))) (by decide +kernel)
theorem lf_RX6_169 : gLf RX6 169 5 6 := ⟨(RX5, TX5, 10), rfl, by decide, wA_t (wt1 (List.mem_of_getElem? (i := 189) (by decide +kernel))) (by decide +kernel), rfl⟩
def rm_X6_bearing : Room := { frames := 3, cells := 0, slots := 0, locals := 71 }
def f_X6_bearing (τ : gτ) (n : Nat) (x0 : Nat) (x1 : Nat) (x2 : Nat) (G : gG) : Option (Int32 × gG) :=
  if (gi G 5 9 x1) = 0 then ((f_X6_yarnAt τ x0 (gi G 5 0 x1) G).bind fun a1 =>
  gchk (gkd τ a1 9) <|
  (f_X6_yarnAt τ x0 (gi G 5 1 x1) G).bind fun a2 =>
  gchk (gkd τ a2 9) <|
  (f_X6_yarnAt τ x0 (gi G 5 2 x1) G).bind fun a3 =>
  gchk (gkd τ a3 9) <|
  (f_X6_isWinter x0 G).bind fun v4 =>
  (f_X1_regard τ x2 x1 a1 a2 a3 v4 G).bind fun G5 =>
  (f_X9_soundness a1 G5).bind fun v6 =>
  (f_X9_soundness a2 G5).bind fun v7 =>
  (f_X9_soundness a3 G5).bind fun v8 =>
  gBind2 (f_X1_sumOfLines τ n x2 (0 : Int32) G5) fun v9 G10 =>
  gLet ((((v6 + v7) + v8) + v9) - ((gi G10 5 5 x1) / (10 : Int32))) fun v11 =>
  some ((gmax v11 (0 : Int32)) * (gi G10 5 6 x1), G10))
  else (some (0, G))
set_option maxHeartbeats 4000000 in
set_option maxRecDepth 100000 in
theorem c_X6_bearing (l : Launch) (X : gX) (τ : gτ) (n : Nat) (x0 : Nat) (x1 : Nat) (x2 : Nat) (G : gG) (h0 : gK τ x0 6) (h1 : gK τ x1 5) (h2 : gK τ x2 1) {r : Int32} {G' : gG} (h : f_X6_bearing τ n x0 x1 x2 G = some (r, G')) : gM l X τ yX6_bearing cX6_bearing 7 (some .int) rm_X6_bearing [.ref x0, .ref x1, .ref x2] G (some (.int r)) G' := by
  refine g_body (by decide +kernel) (Nat.le_of_ble_eq_true rfl) ?_
  intro p e s m args below meth c ls fx hr hw hl
  have fx : gFx X p s m args meth c cX6_bearing 7 RX6 := fx
  have hl : lv_has ls 7 [(0, .ref x0), (1, .ref x1), (2, .ref x2)] := hl
  have hok : gOk (f_X6_bearing τ n x0 x1 x2 G) (fun q => q = (r, G')) := ⟨_, h, rfl⟩
  unfold f_X6_bearing at hok
  show W p l e rm_X6_bearing s m args below meth c s.heap [] 0 0 (MQ below (gQ X τ (some (.int r)) G') args s 0 0 (gFree X)) _
  refine lv_aload_n fx.1 fx.2.1 dX6_bearing_0 rfl (lv_at hl 1 rfl) ?_
  refine g_geti fx hw h1 lf_RX6_135 rfl dX6_bearing_1 ?_
  refine g_if_eq (tgt := 9) fx dX6_bearing_4 (by decide) hok (fun hok => ?_) (fun hok => ?_)
  · refine lv_aload_n fx.1 fx.2.1 dX6_bearing_9 rfl (lv_at hl 0 rfl) ?_
    refine lv_aload_n fx.1 fx.2.1 dX6_bearing_10 rfl (lv_at hl 1 rfl) ?_
    refine g_geti fx hw h1 lf_RX6_126 rfl dX6_bearing_11 ?_
    obtain ⟨a1, hf, hok⟩ := gOk_bind hok
    refine g_callV0 (κ := 6) fx hw (c_X6_yarnAt l X τ x0 (gi G 5 0 x1) G h0 hf) lv_RX6_98 ⟨rfl, rfl⟩ rfl rfl h0 rfl hl.1 rfl ⟨Nat.le_of_ble_eq_true rfl, Nat.le_of_ble_eq_true rfl⟩ (Nat.le_of_ble_eq_true rfl) ⟨Nat.le_of_ble_eq_true rfl, Nat.le_of_ble_eq_true rfl⟩ dX6_bearing_14 (fun H locs hw => ?_)
    obtain ⟨h_a1, hok⟩ := gOk_chk hok
    have h_a1 : gK τ a1 9 := gkd_K h_a1
    refine lv_astore_n (lv' := [(3, .ref a1), (0, .ref x0), (1, .ref x1), (2, .ref x2)]) fx.1 fx.2.1 dX6_bearing_17 rfl hl (by decide) rfl (fun ls hl => ?_)
    refine lv_aload_n fx.1 fx.2.1 dX6_bearing_18 rfl (lv_at hl 1 rfl) ?_
    refine lv_aload_n fx.1 fx.2.1 dX6_bearing_19 rfl (lv_at hl 2 rfl) ?_
    refine g_geti fx hw h1 lf_RX6_129 rfl dX6_bearing_20 ?_
    obtain ⟨a2, hf, hok⟩ := gOk_bind hok
    refine g_callV0 (κ := 6) fx hw (c_X6_yarnAt l X τ x0 (gi G 5 1 x1) G h0 hf) lv_RX6_98 ⟨rfl, rfl⟩ rfl rfl h0 rfl hl.1 rfl ⟨Nat.le_of_ble_eq_true rfl, Nat.le_of_ble_eq_true rfl⟩ (Nat.le_of_ble_eq_true rfl) ⟨Nat.le_of_ble_eq_true rfl, Nat.le_of_ble_eq_true rfl⟩ dX6_bearing_23 (fun H locs hw => ?_)
    obtain ⟨h_a2, hok⟩ := gOk_chk hok
    have h_a2 : gK τ a2 9 := gkd_K h_a2
    refine lv_astore (lv' := [(4, .ref a2), (3, .ref a1), (0, .ref x0), (1, .ref x1), (2, .ref x2)]) fx.1 fx.2.1 dX6_bearing_26 hl (by decide) rfl (fun ls hl => ?_)
    refine lv_aload_n fx.1 fx.2.1 dX6_bearing_28 rfl (lv_at hl 2 rfl) ?_
    refine lv_aload_n fx.1 fx.2.1 dX6_bearing_29 rfl (lv_at hl 3 rfl) ?_
    refine g_geti fx hw h1 lf_RX6_132 rfl dX6_bearing_30 ?_
    obtain ⟨a3, hf, hok⟩ := gOk_bind hok
    refine g_callV0 (κ := 6) fx hw (c_X6_yarnAt l X τ x0 (gi G 5 2 x1) G h0 hf) lv_RX6_98 ⟨rfl, rfl⟩ rfl rfl h0 rfl hl.1 rfl ⟨Nat.le_of_ble_eq_true rfl, Nat.le_of_ble_eq_true rfl⟩ (Nat.le_of_ble_eq_true rfl) ⟨Nat.le_of_ble_eq_true rfl, Nat.le_of_ble_eq_true rfl⟩ dX6_bearing_33 (fun H locs hw => ?_)
    obtain ⟨h_a3, hok⟩ := gOk_chk hok
    have h_a3 : gK τ a3 9 := gkd_K h_a3
    refine lv_astore (lv' := [(5, .ref a3), (4, .ref a2), (3, .ref a1), (0, .ref x0), (1, .ref x1), (2, .ref x2)]) fx.1 fx.2.1 dX6_bearing_36 hl (by decide) rfl (fun ls hl => ?_)
    refine lv_aload_n fx.1 fx.2.1 dX6_bearing_38 rfl (lv_at hl 5 rfl) ?_
    refine lv_aload_n fx.1 fx.2.1 dX6_bearing_39 rfl (lv_at hl 4 rfl) ?_
    refine lv_aload_n fx.1 fx.2.1 dX6_bearing_40 rfl (lv_at hl 2 rfl) ?_
    refine lv_aload fx.1 fx.2.1 dX6_bearing_41 (lv_at hl 1 rfl) ?_
    refine lv_aload fx.1 fx.2.1 dX6_bearing_43 (lv_at hl 0 rfl) ?_
    refine lv_aload_n fx.1 fx.2.1 dX6_bearing_45 rfl (lv_at hl 3 rfl) ?_
    obtain ⟨v4, hf, hok⟩ := gOk_bind hok
    refine g_callV0 (κ := 6) fx hw (c_X6_isWinter l X τ x0 G h0 hf) lv_RX6_146 ⟨rfl, rfl⟩ rfl rfl h0 rfl hl.1 rfl ⟨Nat.le_of_ble_eq_true rfl, Nat.le_of_ble_eq_true rfl⟩ (Nat.le_of_ble_eq_true rfl) ⟨Nat.le_of_ble_eq_true rfl, Nat.le_of_ble_eq_true rfl⟩ dX6_bearing_46 (fun H locs hw => ?_)
    obtain ⟨G5, hf, hok⟩ := gOk_bind hok
    refine g_callV0 (κ := 1) fx hw (c_X1_regard l X τ x2 x1 a1 a2 a3 v4 G h2 h1 h_a1 h_a2 h_a3 hf) lv_RX6_150 ⟨rfl, rfl⟩ rfl rfl h2 rfl hl.1 rfl ⟨Nat.le_of_ble_eq_true rfl, Nat.le_of_ble_eq_true rfl⟩ (Nat.le_of_ble_eq_true rfl) ⟨Nat.le_of_ble_eq_true rfl, Nat.le_of_ble_eq_true rfl⟩ dX6_bearing_49 (fun H locs hw => ?_)
    refine lv_aload_n fx.1 fx.2.1 dX6_bearing_52 rfl (lv_at hl 2 rfl) ?_
    obtain ⟨v6, hf, hok⟩ := gOk_bind hok
    refine g_callV0 (κ := 9) fx hw (c_X9_soundness l X τ a1 G5 h_a1 hf) lv_RX6_156 ⟨rfl, rfl⟩ rfl rfl h_a1 rfl hl.1 rfl ⟨Nat.le_of_ble_eq_true rfl, Nat.le_of_ble_eq_true rfl⟩ (Nat.le_of_ble_eq_true rfl) ⟨Nat.le_of_ble_eq_true rfl, Nat.le_of_ble_eq_true rfl⟩ dX6_bearing_53 (fun H locs hw => ?_)
    refine lv_aload fx.1 fx.2.1 dX6_bearing_56 (lv_at hl 1 rfl) ?_
    obtain ⟨v7, hf, hok⟩ := gOk_bind hok
    refine g_callV0 (κ := 9) fx hw (c_X9_soundness l X τ a2 G5 h_a2 hf) lv_RX6_156 ⟨rfl, rfl⟩ rfl rfl h_a2 rfl hl.1 rfl ⟨Nat.le_of_ble_eq_true rfl, Nat.le_of_ble_eq_true rfl⟩ (Nat.le_of_ble_eq_true rfl) ⟨Nat.le_of_ble_eq_true rfl, Nat.le_of_ble_eq_true rfl⟩ dX6_bearing_58 (fun H locs hw => ?_)
    refine lv_iadd fx.1 fx.2.1 dX6_bearing_61 ?_
    refine lv_aload fx.1 fx.2.1 dX6_bearing_62 (lv_at hl 0 rfl) ?_
    obtain ⟨v8, hf, hok⟩ := gOk_bind hok
    refine g_callV0 (κ := 9) fx hw (c_X9_soundness l X τ a3 G5 h_a3 hf) lv_RX6_156 ⟨rfl, rfl⟩ rfl rfl h_a3 rfl hl.1 rfl ⟨Nat.le_of_ble_eq_true rfl, Nat.le_of_ble_eq_true rfl⟩ (Nat.le_of_ble_eq_true rfl) ⟨Nat.le_of_ble_eq_true rfl, Nat.le_of_ble_eq_true rfl⟩ dX6_bearing_64 (fun H locs hw => ?_)
    refine lv_iadd fx.1 fx.2.1 dX6_bearing_67 ?_
    refine lv_aload_n fx.1 fx.2.1 dX6_bearing_68 rfl (lv_at hl 5 rfl) ?_
    refine lv_iconst (v := 0) fx.1 fx.2.1 dX6_bearing_69 (by decide) ?_
    obtain ⟨v9, G10, hf, hok⟩ := gOk_bind2 hok
    refine g_callV0 (κ := 1) fx hw (c_X1_sumOfLines l X τ n x2 (0 : Int32) G5 h2 hf) lv_RX6_159 ⟨rfl, rfl⟩ rfl rfl h2 rfl hl.1 rfl ⟨Nat.le_of_ble_eq_true rfl, Nat.le_of_ble_eq_true rfl⟩ (Nat.le_of_ble_eq_true rfl) ⟨Nat.le_of_ble_eq_true rfl, Nat.le_of_ble_eq_true rfl⟩ dX6_bearing_70 (fun H locs hw => ?_)
    refine lv_iadd fx.1 fx.2.1 dX6_bearing_73 ?_
    refine lv_aload_n fx.1 fx.2.1 dX6_bearing_74 rfl (lv_at hl 4 rfl) ?_
    refine g_geti fx hw h1 lf_RX6_163 rfl dX6_bearing_75 ?_
    refine lv_bipush (v := 10) fx.1 fx.2.1 dX6_bearing_78 (by decide) ?_
    refine lv_idiv fx.1 fx.2.1 dX6_bearing_80 (by decide) ?_
    refine lv_isub fx.1 fx.2.1 dX6_bearing_81 ?_
    refine g_leti hok (fun v11 hok => ?_)
    refine lv_istore (lv' := [(6, .int v11), (5, .ref a3), (4, .ref a2), (3, .ref a1), (0, .ref x0), (1, .ref x1), (2, .ref x2)]) fx.1 fx.2.1 dX6_bearing_82 hl (by decide) rfl (fun ls hl => ?_)
    refine lv_iload fx.1 fx.2.1 dX6_bearing_84 (lv_at hl 0 rfl) ?_
    refine lv_iconst (v := 0) fx.1 fx.2.1 dX6_bearing_86 (by decide) ?_
    refine g_mmax fx hl.1 lm_RX6_166 lmst_max lm_init lmco_max ⟨Nat.le_of_ble_eq_true rfl, Nat.le_of_ble_eq_true rfl, Nat.le_of_ble_eq_true rfl, Nat.le_of_ble_eq_true rfl⟩ dX6_bearing_87 ?_
    refine lv_aload_n fx.1 fx.2.1 dX6_bearing_90 rfl (lv_at hl 5 rfl) ?_
    refine g_geti fx hw h1 lf_RX6_169 rfl dX6_bearing_91 ?_
    refine lv_imul fx.1 fx.2.1 dX6_bearing_94 ?_
    cases gOk_some hok
    exact g_iret fx hw hr dX6_bearing_95
  · refine lv_iconst (v := 0) fx.1 fx.2.1 dX6_bearing_7 (by decide) ?_
    cases gOk_some hok
    exact g_iret fx hw hr dX6_bearing_8
theorem dX6_wearing_0 : decode cX6_wearing 0 = .ok (.aload_n 2, 1) := by decide +kernel
theorem dX6_wearing_1 : decode cX6_wearing 1 = .ok (.getfield 172, 3) := by decide +kernel
theorem dX6_wearing_4 : decode cX6_wearing 4 = .ok (.ifCond .ne 5, 3) := by decide +kernel
theorem dX6_wearing_7 : decode cX6_wearing 7 = .ok (.iconst 1, 1) := by decide +kernel
theorem dX6_wearing_8 : decode cX6_wearing 8 = .ok (.ireturn, 1) := by decide +kernel
theorem dX6_wearing_9 : decode cX6_wearing 9 = .ok (.aload_n 2, 1) := by decide +kernel
theorem dX6_wearing_10 : decode cX6_wearing 10 = .ok (.aload_n 1, 1) := by decide +kernel
theorem dX6_wearing_11 : decode cX6_wearing 11 = .ok (.aload_n 0, 1) := by decide +kernel
theorem dX6_wearing_12 : decode cX6_wearing 12 = .ok (.aload_n 1, 1) := by decide +kernel
theorem dX6_wearing_13 : decode cX6_wearing 13 = .ok (.getfield 126, 3) := by decide +kernel
theorem dX6_wearing_16 : decode cX6_wearing 16 = .ok (.invokevirtual 98, 3) := by decide +kernel
theorem dX6_wearing_19 : decode cX6_wearing 19 = .ok (.aload_n 0, 1) := by decide +kernel
theorem dX6_wearing_20 : decode cX6_wearing 20 = .ok (.aload_n 1, 1) := by decide +kernel
theorem dX6_wearing_21 : decode cX6_wearing 21 = .ok (.getfield 129, 3) := by decide +kernel
theorem dX6_wearing_24 : decode cX6_wearing 24 = .ok (.invokevirtual 98, 3) := by decide +kernel
theorem dX6_wearing_27 : decode cX6_wearing 27 = .ok (.aload_n 0, 1) := by decide +kernel
theorem dX6_wearing_28 : decode cX6_wearing 28 = .ok (.aload_n 1, 1) := by decide +kernel
theorem dX6_wearing_29 : decode cX6_wearing 29 = .ok (.getfield 132, 3) := by decide +kernel
theorem dX6_wearing_32 : decode cX6_wearing 32 = .ok (.invokevirtual 98, 3) := by decide +kernel
theorem dX6_wearing_35 : decode cX6_wearing 35 = .ok (.aload_n 0, 1) := by decide +kernel
theorem dX6_wearing_36 : decode cX6_wearing 36 = .ok (.invokevirtual 146, 3) := by decide +kernel
theorem dX6_wearing_39 : decode cX6_wearing 39 = .ok (.invokevirtual 150, 3) := by decide +kernel
theorem dX6_wearing_42 : decode cX6_wearing 42 = .ok (.aload_n 2, 1) := by decide +kernel
theorem dX6_wearing_43 : decode cX6_wearing 43 = .ok (.iconst 1, 1) := by decide +kernel
theorem dX6_wearing_44 : decode cX6_wearing 44 = .ok (.invokevirtual 159, 3) := by decide +kernel
theorem dX6_wearing_47 : decode cX6_wearing 47 = .ok (.ireturn, 1) := by decide +kernel
theorem lf_RX6_172 : gLf RX6 172 1 8 := ⟨(RX1, TX1, 9), rfl, by decide, wA_t (wt2 (List.mem_of_getElem? (i := 103) (by decide +kernel))) (by decide +kernel), rfl⟩
def rm_X6_wearing : Room := { frames := 3, cells := 0, slots := 0, locals := 71 }
def f_X6_wearing (τ : gτ) (n : Nat) (x0 : Nat) (x1 : Nat) (x2 : Nat) (G : gG) : Option (Int32 × gG) :=
  if (gi G 1 8 x2) = 0 then (some (1, G))
  else ((f_X6_yarnAt τ x0 (gi G 5 0 x1) G).bind fun a1 =>
  gchk (gkd τ a1 9) <|
  (f_X6_yarnAt τ x0 (gi G 5 1 x1) G).bind fun a2 =>
  gchk (gkd τ a2 9) <|
  (f_X6_yarnAt τ x0 (gi G 5 2 x1) G).bind fun a3 =>
  gchk (gkd τ a3 9) <|
  (f_X6_isWinter x0 G).bind fun v4 =>
  (f_X1_regard τ x2 x1 a1 a2 a3 v4 G).bind fun G5 =>
  gBind2 (f_X1_sumOfLines τ n x2 (1 : Int32) G5) fun v6 G7 =>
  some (v6, G7))
set_option maxHeartbeats 4000000 in
set_option maxRecDepth 100000 in
theorem c_X6_wearing (l : Launch) (X : gX) (τ : gτ) (n : Nat) (x0 : Nat) (x1 : Nat) (x2 : Nat) (G : gG) (h0 : gK τ x0 6) (h1 : gK τ x1 5) (h2 : gK τ x2 1) {r : Int32} {G' : gG} (h : f_X6_wearing τ n x0 x1 x2 G = some (r, G')) : gM l X τ yX6_wearing cX6_wearing 3 (some .int) rm_X6_wearing [.ref x0, .ref x1, .ref x2] G (some (.int r)) G' := by
  refine g_body (by decide +kernel) (Nat.le_of_ble_eq_true rfl) ?_
  intro p e s m args below meth c ls fx hr hw hl
  have fx : gFx X p s m args meth c cX6_wearing 3 RX6 := fx
  have hl : lv_has ls 3 [(0, .ref x0), (1, .ref x1), (2, .ref x2)] := hl
  have hok : gOk (f_X6_wearing τ n x0 x1 x2 G) (fun q => q = (r, G')) := ⟨_, h, rfl⟩
  unfold f_X6_wearing at hok
  show W p l e rm_X6_wearing s m args below meth c s.heap [] 0 0 (MQ below (gQ X τ (some (.int r)) G') args s 0 0 (gFree X)) _
  refine lv_aload_n fx.1 fx.2.1 dX6_wearing_0 rfl (lv_at hl 2 rfl) ?_
  refine g_geti fx hw h2 lf_RX6_172 rfl dX6_wearing_1 ?_
  refine g_if_ne (tgt := 9) fx dX6_wearing_4 (by decide) hok (fun hok => ?_) (fun hok => ?_)
  · refine lv_iconst (v := 1) fx.1 fx.2.1 dX6_wearing_7 (by decide) ?_
    cases gOk_some hok
    exact g_iret fx hw hr dX6_wearing_8
  · refine lv_aload_n fx.1 fx.2.1 dX6_wearing_9 rfl (lv_at hl 2 rfl) ?_
    refine lv_aload_n fx.1 fx.2.1 dX6_wearing_10 rfl (lv_at hl 1 rfl) ?_
    refine lv_aload_n fx.1 fx.2.1 dX6_wearing_11 rfl (lv_at hl 0 rfl) ?_
    refine lv_aload_n fx.1 fx.2.1 dX6_wearing_12 rfl (lv_at hl 1 rfl) ?_
    refine g_geti fx hw h1 lf_RX6_126 rfl dX6_wearing_13 ?_
    obtain ⟨a1, hf, hok⟩ := gOk_bind hok
    refine g_callV0 (κ := 6) fx hw (c_X6_yarnAt l X τ x0 (gi G 5 0 x1) G h0 hf) lv_RX6_98 ⟨rfl, rfl⟩ rfl rfl h0 rfl hl.1 rfl ⟨Nat.le_of_ble_eq_true rfl, Nat.le_of_ble_eq_true rfl⟩ (Nat.le_of_ble_eq_true rfl) ⟨Nat.le_of_ble_eq_true rfl, Nat.le_of_ble_eq_true rfl⟩ dX6_wearing_16 (fun H locs hw => ?_)
    obtain ⟨h_a1, hok⟩ := gOk_chk hok
    have h_a1 : gK τ a1 9 := gkd_K h_a1
    refine lv_aload_n fx.1 fx.2.1 dX6_wearing_19 rfl (lv_at hl 0 rfl) ?_
    refine lv_aload_n fx.1 fx.2.1 dX6_wearing_20 rfl (lv_at hl 1 rfl) ?_
    refine g_geti fx hw h1 lf_RX6_129 rfl dX6_wearing_21 ?_
    obtain ⟨a2, hf, hok⟩ := gOk_bind hok
    refine g_callV0 (κ := 6) fx hw (c_X6_yarnAt l X τ x0 (gi G 5 1 x1) G h0 hf) lv_RX6_98 ⟨rfl, rfl⟩ rfl rfl h0 rfl hl.1 rfl ⟨Nat.le_of_ble_eq_true rfl, Nat.le_of_ble_eq_true rfl⟩ (Nat.le_of_ble_eq_true rfl) ⟨Nat.le_of_ble_eq_true rfl, Nat.le_of_ble_eq_true rfl⟩ dX6_wearing_24 (fun H locs hw => ?_)
    obtain ⟨h_a2, hok⟩ := gOk_chk hok
    have h_a2 : gK τ a2 9 := gkd_K h_a2
    refine lv_aload_n fx.1 fx.2.1 dX6_wearing_27 rfl (lv_at hl 0 rfl) ?_
    refine lv_aload_n fx.1 fx.2.1 dX6_wearing_28 rfl (lv_at hl 1 rfl) ?_
    refine g_geti fx hw h1 lf_RX6_132 rfl dX6_wearing_29 ?_
    obtain ⟨a3, hf, hok⟩ := gOk_bind hok
    refine g_callV0 (κ := 6) fx hw (c_X6_yarnAt l X τ x0 (gi G 5 2 x1) G h0 hf) lv_RX6_98 ⟨rfl, rfl⟩ rfl rfl h0 rfl hl.1 rfl ⟨Nat.le_of_ble_eq_true rfl, Nat.le_of_ble_eq_true rfl⟩ (Nat.le_of_ble_eq_true rfl) ⟨Nat.le_of_ble_eq_true rfl, Nat.le_of_ble_eq_true rfl⟩ dX6_wearing_32 (fun H locs hw => ?_)
    obtain ⟨h_a3, hok⟩ := gOk_chk hok
    have h_a3 : gK τ a3 9 := gkd_K h_a3
    refine lv_aload_n fx.1 fx.2.1 dX6_wearing_35 rfl (lv_at hl 0 rfl) ?_
    obtain ⟨v4, hf, hok⟩ := gOk_bind hok
    refine g_callV0 (κ := 6) fx hw (c_X6_isWinter l X τ x0 G h0 hf) lv_RX6_146 ⟨rfl, rfl⟩ rfl rfl h0 rfl hl.1 rfl ⟨Nat.le_of_ble_eq_true rfl, Nat.le_of_ble_eq_true rfl⟩ (Nat.le_of_ble_eq_true rfl) ⟨Nat.le_of_ble_eq_true rfl, Nat.le_of_ble_eq_true rfl⟩ dX6_wearing_36 (fun H locs hw => ?_)
    obtain ⟨G5, hf, hok⟩ := gOk_bind hok
    refine g_callV0 (κ := 1) fx hw (c_X1_regard l X τ x2 x1 a1 a2 a3 v4 G h2 h1 h_a1 h_a2 h_a3 hf) lv_RX6_150 ⟨rfl, rfl⟩ rfl rfl h2 rfl hl.1 rfl ⟨Nat.le_of_ble_eq_true rfl, Nat.le_of_ble_eq_true rfl⟩ (Nat.le_of_ble_eq_true rfl) ⟨Nat.le_of_ble_eq_true rfl, Nat.le_of_ble_eq_true rfl⟩ dX6_wearing_39 (fun H locs hw => ?_)
    refine lv_aload_n fx.1 fx.2.1 dX6_wearing_42 rfl (lv_at hl 2 rfl) ?_
    refine lv_iconst (v := 1) fx.1 fx.2.1 dX6_wearing_43 (by decide) ?_
    obtain ⟨v6, G7, hf, hok⟩ := gOk_bind2 hok
    refine g_callV0 (κ := 1) fx hw (c_X1_sumOfLines l X τ n x2 (1 : Int32) G5 h2 hf) lv_RX6_159 ⟨rfl, rfl⟩ rfl rfl h2 rfl hl.1 rfl ⟨Nat.le_of_ble_eq_true rfl, Nat.le_of_ble_eq_true rfl⟩ (Nat.le_of_ble_eq_true rfl) ⟨Nat.le_of_ble_eq_true rfl, Nat.le_of_ble_eq_true rfl⟩ dX6_wearing_44 (fun H locs hw => ?_)
    cases gOk_some hok
    exact g_iret fx hw hr dX6_wearing_47
