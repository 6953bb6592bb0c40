theorem dX0_become_0 : decode cX0_become 0 = .ok (.aload_n 1, 1) := by decide +kernel
theorem dX0_become_1 : decode cX0_become 1 = .ok (.getfield 9, 3) := by decide +kernel
theorem dX0_become_4 : decode cX0_become 4 = .ok (.iconst 0, 1) := by decide +kernel
theorem dX0_become_5 : decode cX0_become 5 = .ok (.aload_n 0, 1) := by decide +kernel
theorem dX0_become_6 : decode cX0_become 6 = .ok (.getfield 9, 3) := by decide +kernel
theorem dX0_become_9 : decode cX0_become 9 = .ok (.iconst 0, 1) := by decide +kernel
theorem dX0_become_10 : decode cX0_become 10 = .ok (.aload_n 0, 1) := by decide +kernel
theorem dX0_become_11 : decode cX0_become 11 = .ok (.getfield 9, 3) := by decide +kernel
theorem dX0_become_14 : decode cX0_become 14 = .ok (.arraylength, 1) := by decide +kernel
theorem dX0_become_15 : decode cX0_become 15 = .ok (.invokestatic 15, 3) := by decide +kernel
theorem dX0_become_18 : decode cX0_become 18 = .ok (.aload_n 0, 1) := by decide +kernel
theorem dX0_become_19 : decode cX0_become 19 = .ok (.aload_n 1, 1) := by decide +kernel
theorem dX0_become_20 : decode cX0_become 20 = .ok (.getfield 21, 3) := by decide +kernel
theorem dX0_become_23 : decode cX0_become 23 = .ok (.putfield 21, 3) := by decide +kernel
theorem dX0_become_26 : decode cX0_become 26 = .ok (.aload_n 0, 1) := by decide +kernel
theorem dX0_become_27 : decode cX0_become 27 = .ok (.aload_n 1, 1) := by decide +kernel
theorem dX0_become_28 : decode cX0_become 28 = .ok (.getfield 25, 3) := by decide +kernel
theorem dX0_become_31 : decode cX0_become 31 = .ok (.putfield 25, 3) := by decide +kernel
theorem dX0_become_34 : decode cX0_become 34 = .ok (.return_, 1) := by decide +kernel
theorem lf_RX0_9 : gLf RX0 9 0 0 := ⟨(RX0, TX0, 3), rfl, by decide, wA_t (wt1 (List.mem_of_getElem? (i := 117) (by decide +kernel))) (by decide +kernel), rfl⟩
theorem lac_RX0_15 : Cond.methodLink RX0 15 arraycopyName ∈ wA := wA_t (wt3 (List.mem_of_getElem? (i := 115) (by decide +kernel))) (by decide +kernel)
theorem lac_nat : Cond.native arraycopyName ∈ wA := wA_t (wt3 (List.mem_of_getElem? (i := 117) (by decide +kernel))) (by decide +kernel)
theorem lac_st : Cond.static arraycopyName ∈ wA := wA_t (wt3 (List.mem_of_getElem? (i := 116) (by decide +kernel))) (by decide +kernel)
theorem lac_in : Cond.initialized "java/lang/System" ∈ wA := wA_t (wt1 (List.mem_of_getElem? (i := 13) (by decide +kernel))) (by decide +kernel)
theorem lf_RX0_21 : gLf RX0 21 0 1 := ⟨(RX0, TX0, 3), rfl, by decide, wA_t (wt1 (List.mem_of_getElem? (i := 118) (by decide +kernel))) (by decide +kernel), rfl⟩
theorem lp_RX0_21 : gLp RX0 21 0 1 := ⟨(RX0, TX0, 3), rfl, by decide, wA_t (wt1 (List.mem_of_getElem? (i := 118) (by decide +kernel))) (by decide +kernel), rfl, rfl⟩
theorem lf_RX0_25 : gLf RX0 25 0 2 := ⟨(RX0, TX0, 3), rfl, by decide, wA_t (wt1 (List.mem_of_getElem? (i := 120) (by decide +kernel))) (by decide +kernel), rfl⟩
theorem lp_RX0_25 : gLp RX0 25 0 2 := ⟨(RX0, TX0, 3), rfl, by decide, wA_t (wt1 (List.mem_of_getElem? (i := 120) (by decide +kernel))) (by decide +kernel), rfl, rfl⟩
def rm_X0_become : Room := { frames := 1, cells := 0, slots := 0, locals := 40 }
def f_X0_become (τ : gτ) (x0 : Nat) (x1 : Nat) (G : gG) : Option (gG) :=
  (gr G 0 0 x1).bind fun a1 =>
  (gr G 0 0 x0).bind fun a2 =>
  (gr G 0 0 x0).bind fun a3 =>
  gchk (¬ (0 : Int32) < 0 ∧ ¬ (0 : Int32) < 0 ∧ ¬ ((nI (gn τ a3)) : Int32) < 0 ∧ Int32.toNatClampNeg (0 : Int32) + Int32.toNatClampNeg (nI (gn τ a3)) ≤ gn τ a1 ∧ Int32.toNatClampNeg (0 : Int32) + Int32.toNatClampNeg (nI (gn τ a3)) ≤ gn τ a2) <| gLet (gsw G a2 (va_cpy (ge G a1) (ge G a2) (Int32.toNatClampNeg (0 : Int32)) (Int32.toNatClampNeg (0 : Int32)) (Int32.toNatClampNeg (nI (gn τ a3))))) fun G4 =>
  gLet (gsi G4 0 1 x0 (gi G4 0 1 x1)) fun G5 =>
  gLet (gsi G5 0 2 x0 (gi G5 0 2 x1)) fun G6 =>
  some G6
set_option maxHeartbeats 4000000 in
set_option maxRecDepth 100000 in
theorem c_X0_become (l : Launch) (X : gX) (τ : gτ) (x0 : Nat) (x1 : Nat) (G : gG) (h0 : gK τ x0 0) (h1 : gK τ x1 0) {G' : gG} (h : f_X0_become τ x0 x1 G = some G') : gM l X τ yX0_become cX0_become 2 none rm_X0_become [.ref x0, .ref x1] G none G' := by
  refine g_body (by decide +kernel) (Nat.le_of_ble_eq_true rfl) ?_
  intro p e s m args below meth c ls fx hr hw hl
  have fx : gFx X p s m args meth c cX0_become 2 RX0 := fx
  have hl : lv_has ls 2 [(0, .ref x0), (1, .ref x1)] := hl
  have hok : gOk (f_X0_become τ x0 x1 G) (fun q => q = G') := ⟨_, h, rfl⟩
  unfold f_X0_become at hok
  show W p l e rm_X0_become s m args below meth c s.heap [] 0 0 (MQ below (gQ X τ none G') args s 0 0 (gFree X)) _
  refine lv_aload_n fx.1 fx.2.1 dX0_become_0 rfl (lv_at hl 1 rfl) ?_
  refine g_getr fx hw h1 lf_RX0_9 rfl dX0_become_1 hok (fun a1 h_a1 hok => ?_)
  refine lv_iconst (v := 0) fx.1 fx.2.1 dX0_become_4 (by decide) ?_
  refine lv_aload_n fx.1 fx.2.1 dX0_become_5 rfl (lv_at hl 0 rfl) ?_
  refine g_getr fx hw h0 lf_RX0_9 rfl dX0_become_6 hok (fun a2 h_a2 hok => ?_)
  refine lv_iconst (v := 0) fx.1 fx.2.1 dX0_become_9 (by decide) ?_
  refine lv_aload_n fx.1 fx.2.1 dX0_become_10 rfl (lv_at hl 0 rfl) ?_
  refine g_getr fx hw h0 lf_RX0_9 rfl dX0_become_11 hok (fun a3 h_a3 hok => ?_)
  refine g_alen fx hw h_a3 dX0_become_14 ?_
  refine g_copy fx hl.1 hw lac_RX0_15 lac_nat lac_st lac_in h_a1 h_a2 ⟨Nat.le_of_ble_eq_true rfl, Nat.le_of_ble_eq_true rfl⟩ dX0_become_15 hok (fun G4 H locs hw hok => ?_)
  refine lv_aload_n fx.1 fx.2.1 dX0_become_18 rfl (lv_at hl 0 rfl) ?_
  refine lv_aload_n fx.1 fx.2.1 dX0_become_19 rfl (lv_at hl 1 rfl) ?_
  refine g_geti fx hw h1 lf_RX0_21 rfl dX0_become_20 ?_
  refine g_puti fx hw h0 lp_RX0_21 rfl rfl dX0_become_23 hok (fun G5 H locs hw hok => ?_)
  refine lv_aload_n fx.1 fx.2.1 dX0_become_26 rfl (lv_at hl 0 rfl) ?_
  refine lv_aload_n fx.1 fx.2.1 dX0_become_27 rfl (lv_at hl 1 rfl) ?_
  refine g_geti fx hw h1 lf_RX0_25 rfl dX0_become_28 ?_
  refine g_puti fx hw h0 lp_RX0_25 rfl rfl dX0_become_31 hok (fun G6 H locs hw hok => ?_)
  cases gOk_some hok
  exact g_vret fx hw hr dX0_become_34
theorem dX0_add_0 : decode cX0_add 0 = .ok (.aload_n 0, 1) := by decide +kernel
theorem dX0_add_1 : decode cX0_add 1 = .ok (.getfield 25, 3) := by decide +kernel
theorem dX0_add_4 : decode cX0_add 4 = .ok (.iconst 5, 1) := by decide +kernel
theorem dX0_add_5 : decode cX0_add 5 = .ok (.imul, 1) := by decide +kernel
theorem dX0_add_6 : decode cX0_add 6 = .ok (.istore_n 3, 1) := by decide +kernel
theorem dX0_add_7 : decode cX0_add 7 = .ok (.aload_n 0, 1) := by decide +kernel
theorem dX0_add_8 : decode cX0_add 8 = .ok (.getfield 9, 3) := by decide +kernel
theorem dX0_add_11 : decode cX0_add 11 = .ok (.iload_n 3, 1) := by decide +kernel
theorem dX0_add_12 : decode cX0_add 12 = .ok (.iload_n 1, 1) := by decide +kernel
theorem dX0_add_13 : decode cX0_add 13 = .ok (.iastore, 1) := by decide +kernel
theorem dX0_add_14 : decode cX0_add 14 = .ok (.aload_n 0, 1) := by decide +kernel
theorem dX0_add_15 : decode cX0_add 15 = .ok (.getfield 9, 3) := by decide +kernel
theorem dX0_add_18 : decode cX0_add 18 = .ok (.iload_n 3, 1) := by decide +kernel
theorem dX0_add_19 : decode cX0_add 19 = .ok (.iconst 1, 1) := by decide +kernel
theorem dX0_add_20 : decode cX0_add 20 = .ok (.iadd, 1) := by decide +kernel
theorem dX0_add_21 : decode cX0_add 21 = .ok (.aload_n 2, 1) := by decide +kernel
theorem dX0_add_22 : decode cX0_add 22 = .ok (.getfield 28, 3) := by decide +kernel
theorem dX0_add_25 : decode cX0_add 25 = .ok (.iastore, 1) := by decide +kernel
theorem dX0_add_26 : decode cX0_add 26 = .ok (.aload_n 0, 1) := by decide +kernel
theorem dX0_add_27 : decode cX0_add 27 = .ok (.getfield 9, 3) := by decide +kernel
theorem dX0_add_30 : decode cX0_add 30 = .ok (.iload_n 3, 1) := by decide +kernel
theorem dX0_add_31 : decode cX0_add 31 = .ok (.iconst 2, 1) := by decide +kernel
theorem dX0_add_32 : decode cX0_add 32 = .ok (.iadd, 1) := by decide +kernel
theorem dX0_add_33 : decode cX0_add 33 = .ok (.aload_n 2, 1) := by decide +kernel
theorem dX0_add_34 : decode cX0_add 34 = .ok (.getfield 33, 3) := by decide +kernel
theorem dX0_add_37 : decode cX0_add 37 = .ok (.iastore, 1) := by decide +kernel
theorem dX0_add_38 : decode cX0_add 38 = .ok (.aload_n 0, 1) := by decide +kernel
theorem dX0_add_39 : decode cX0_add 39 = .ok (.getfield 9, 3) := by decide +kernel
theorem dX0_add_42 : decode cX0_add 42 = .ok (.iload_n 3, 1) := by decide +kernel
theorem dX0_add_43 : decode cX0_add 43 = .ok (.iconst 3, 1) := by decide +kernel
theorem dX0_add_44 : decode cX0_add 44 = .ok (.iadd, 1) := by decide +kernel
theorem dX0_add_45 : decode cX0_add 45 = .ok (.aload_n 2, 1) := by decide +kernel
theorem dX0_add_46 : decode cX0_add 46 = .ok (.getfield 36, 3) := by decide +kernel
theorem dX0_add_49 : decode cX0_add 49 = .ok (.iastore, 1) := by decide +kernel
theorem dX0_add_50 : decode cX0_add 50 = .ok (.aload_n 0, 1) := by decide +kernel
theorem dX0_add_51 : decode cX0_add 51 = .ok (.getfield 9, 3) := by decide +kernel
theorem dX0_add_54 : decode cX0_add 54 = .ok (.iload_n 3, 1) := by decide +kernel
theorem dX0_add_55 : decode cX0_add 55 = .ok (.iconst 4, 1) := by decide +kernel
theorem dX0_add_56 : decode cX0_add 56 = .ok (.iadd, 1) := by decide +kernel
theorem dX0_add_57 : decode cX0_add 57 = .ok (.aload_n 2, 1) := by decide +kernel
theorem dX0_add_58 : decode cX0_add 58 = .ok (.getfield 39, 3) := by decide +kernel
theorem dX0_add_61 : decode cX0_add 61 = .ok (.iastore, 1) := by decide +kernel
theorem dX0_add_62 : decode cX0_add 62 = .ok (.aload_n 0, 1) := by decide +kernel
theorem dX0_add_63 : decode cX0_add 63 = .ok (.aload_n 0, 1) := by decide +kernel
theorem dX0_add_64 : decode cX0_add 64 = .ok (.getfield 25, 3) := by decide +kernel
theorem dX0_add_67 : decode cX0_add 67 = .ok (.iconst 1, 1) := by decide +kernel
theorem dX0_add_68 : decode cX0_add 68 = .ok (.iadd, 1) := by decide +kernel
theorem dX0_add_69 : decode cX0_add 69 = .ok (.bipush 60, 2) := by decide +kernel
theorem dX0_add_71 : decode cX0_add 71 = .ok (.irem, 1) := by decide +kernel
theorem dX0_add_72 : decode cX0_add 72 = .ok (.putfield 25, 3) := by decide +kernel
theorem dX0_add_75 : decode cX0_add 75 = .ok (.aload_n 0, 1) := by decide +kernel
theorem dX0_add_76 : decode cX0_add 76 = .ok (.aload_n 0, 1) := by decide +kernel
theorem dX0_add_77 : decode cX0_add 77 = .ok (.getfield 21, 3) := by decide +kernel
theorem dX0_add_80 : decode cX0_add 80 = .ok (.iconst 1, 1) := by decide +kernel
theorem dX0_add_81 : decode cX0_add 81 = .ok (.iadd, 1) := by decide +kernel
theorem dX0_add_82 : decode cX0_add 82 = .ok (.bipush 60, 2) := by decide +kernel
theorem dX0_add_84 : decode cX0_add 84 = .ok (.invokestatic 42, 3) := by decide +kernel
theorem dX0_add_87 : decode cX0_add 87 = .ok (.putfield 21, 3) := by decide +kernel
theorem dX0_add_90 : decode cX0_add 90 = .ok (.return_, 1) := by decide +kernel
theorem lf_RX0_28 : gLf RX0 28 5 0 := ⟨(RX5, TX5, 10), rfl, by decide, wA_t (wt1 (List.mem_of_getElem? (i := 163) (by decide +kernel))) (by decide +kernel), rfl⟩
theorem lf_RX0_33 : gLf RX0 33 5 1 := ⟨(RX5, TX5, 10), rfl, by decide, wA_t (wt1 (List.mem_of_getElem? (i := 167) (by decide +kernel))) (by decide +kernel), rfl⟩
theorem lf_RX0_36 : gLf RX0 36 5 2 := ⟨(RX5, TX5, 10), rfl, by decide, wA_t (wt1 (List.mem_of_getElem? (i := 171) (by decide +kernel))) (by decide +kernel), rfl⟩
theorem lf_RX0_39 : gLf RX0 39 5 7 := ⟨(RX5, TX5, 10), rfl, by decide, wA_t (wt1 (List.mem_of_getElem? (i := 191) (by decide +kernel))) (by decide +kernel), rfl⟩
theorem lm_RX0_42 : Cond.methodLink RX0 42 Lib.Math.min.name ∈ wA := wA_t (wt6 (List.mem_of_getElem? (i := 15) (by decide +kernel))) (by decide +kernel)
theorem lmst_min : Cond.static Lib.Math.min.name ∈ wA := wA_t (wt2 (List.mem_of_getElem? (i := 217) (by decide +kernel))) (by decide +kernel)
theorem lm_init : Cond.initialized "java/lang/Math" ∈ wA := wA_t (wt1 (List.mem_of_getElem? (i := 18) (by decide +kernel))) (by decide +kernel)
theorem lmco_min : Cond.code Lib.Math.min.name Lib.Math.min.code 2 (some .int) ∈ wA := wA_t (wt2 (List.mem_of_getElem? (i := 218) (by decide +kernel))) (by decide +kernel)
def rm_X0_add : Room := { frames := 1, cells := 0, slots := 0, locals := 21 }
def f_X0_add (τ : gτ) (x0 : Nat) (x1 : Int32) (x2 : Nat) (G : gG) : Option (gG) :=
  gLet ((gi G 0 2 x0) * (5 : Int32)) fun v1 =>
  (gr G 0 0 x0).bind fun a2 =>
  gchk (gIn v1 (gn τ a2)) <| gLet (gse G a2 (Int32.toNatClampNeg v1) x1) fun G3 =>
  (gr G3 0 0 x0).bind fun a4 =>
  gchk (gIn (v1 + (1 : Int32)) (gn τ a4)) <| gLet (gse G3 a4 (Int32.toNatClampNeg (v1 + (1 : Int32))) (gi G3 5 0 x2)) fun G5 =>
  (gr G5 0 0 x0).bind fun a6 =>
  gchk (gIn (v1 + (2 : Int32)) (gn τ a6)) <| gLet (gse G5 a6 (Int32.toNatClampNeg (v1 + (2 : Int32))) (gi G5 5 1 x2)) fun G7 =>
  (gr G7 0 0 x0).bind fun a8 =>
  gchk (gIn (v1 + (3 : Int32)) (gn τ a8)) <| gLet (gse G7 a8 (Int32.toNatClampNeg (v1 + (3 : Int32))) (gi G7 5 2 x2)) fun G9 =>
  (gr G9 0 0 x0).bind fun a10 =>
  gchk (gIn (v1 + (4 : Int32)) (gn τ a10)) <| gLet (gse G9 a10 (Int32.toNatClampNeg (v1 + (4 : Int32))) (gi G9 5 7 x2)) fun G11 =>
  gLet (gsi G11 0 2 x0 (((gi G11 0 2 x0) + (1 : Int32)) - ((gi G11 0 2 x0) + (1 : Int32)) / (60 : Int32) * (60 : Int32))) fun G12 =>
  gLet (gsi G12 0 1 x0 (gmin ((gi G12 0 1 x0) + (1 : Int32)) (60 : Int32))) fun G13 =>
  some G13
set_option maxHeartbeats 4000000 in
set_option maxRecDepth 100000 in
theorem c_X0_add (l : Launch) (X : gX) (τ : gτ) (x0 : Nat) (x1 : Int32) (x2 : Nat) (G : gG) (h0 : gK τ x0 0) (h2 : gK τ x2 5) {G' : gG} (h : f_X0_add τ x0 x1 x2 G = some G') : gM l X τ yX0_add cX0_add 4 none rm_X0_add [.ref x0, .int x1, .ref x2] G none G' := by
  refine g_body (by decide +kernel) (Nat.le_of_ble_eq_true rfl) ?_
  intro p e s m args below meth c ls fx hr hw hl
  have fx : gFx X p s m args meth c cX0_add 4 RX0 := fx
  have hl : lv_has ls 4 [(0, .ref x0), (1, .int x1), (2, .ref x2)] := hl
  have hok : gOk (f_X0_add τ x0 x1 x2 G) (fun q => q = G') := ⟨_, h, rfl⟩
  unfold f_X0_add at hok
  show W p l e rm_X0_add s m args below meth c s.heap [] 0 0 (MQ below (gQ X τ none G') args s 0 0 (gFree X)) _
  refine lv_aload_n fx.1 fx.2.1 dX0_add_0 rfl (lv_at hl 0 rfl) ?_
  refine g_geti fx hw h0 lf_RX0_25 rfl dX0_add_1 ?_
  refine lv_iconst (v := 5) fx.1 fx.2.1 dX0_add_4 (by decide) ?_
  refine lv_imul fx.1 fx.2.1 dX0_add_5 ?_
  refine g_leti hok (fun v1 hok => ?_)
  refine lv_istore_n (lv' := [(3, .int v1), (0, .ref x0), (1, .int x1), (2, .ref x2)]) fx.1 fx.2.1 dX0_add_6 rfl hl (by decide) rfl (fun ls hl => ?_)
  refine lv_aload_n fx.1 fx.2.1 dX0_add_7 rfl (lv_at hl 1 rfl) ?_
  refine g_getr fx hw h0 lf_RX0_9 rfl dX0_add_8 hok (fun a2 h_a2 hok => ?_)
  refine lv_iload_n fx.1 fx.2.1 dX0_add_11 rfl (lv_at hl 0 rfl) ?_
  refine lv_iload_n fx.1 fx.2.1 dX0_add_12 rfl (lv_at hl 2 rfl) ?_
  refine g_iast fx hw h_a2 dX0_add_13 hok (fun G3 H locs hw hok => ?_)
  refine lv_aload_n fx.1 fx.2.1 dX0_add_14 rfl (lv_at hl 1 rfl) ?_
  refine g_getr fx hw h0 lf_RX0_9 rfl dX0_add_15 hok (fun a4 h_a4 hok => ?_)
  refine lv_iload_n fx.1 fx.2.1 dX0_add_18 rfl (lv_at hl 0 rfl) ?_
  refine lv_iconst (v := 1) fx.1 fx.2.1 dX0_add_19 (by decide) ?_
  refine lv_iadd fx.1 fx.2.1 dX0_add_20 ?_
  refine lv_aload_n fx.1 fx.2.1 dX0_add_21 rfl (lv_at hl 3 rfl) ?_
  refine g_geti fx hw h2 lf_RX0_28 rfl dX0_add_22 ?_
  refine g_iast fx hw h_a4 dX0_add_25 hok (fun G5 H locs hw hok => ?_)
  refine lv_aload_n fx.1 fx.2.1 dX0_add_26 rfl (lv_at hl 1 rfl) ?_
  refine g_getr fx hw h0 lf_RX0_9 rfl dX0_add_27 hok (fun a6 h_a6 hok => ?_)
  refine lv_iload_n fx.1 fx.2.1 dX0_add_30 rfl (lv_at hl 0 rfl) ?_
  refine lv_iconst (v := 2) fx.1 fx.2.1 dX0_add_31 (by decide) ?_
  refine lv_iadd fx.1 fx.2.1 dX0_add_32 ?_
  refine lv_aload_n fx.1 fx.2.1 dX0_add_33 rfl (lv_at hl 3 rfl) ?_
  refine g_geti fx hw h2 lf_RX0_33 rfl dX0_add_34 ?_
  refine g_iast fx hw h_a6 dX0_add_37 hok (fun G7 H locs hw hok => ?_)
  refine lv_aload_n fx.1 fx.2.1 dX0_add_38 rfl (lv_at hl 1 rfl) ?_
  refine g_getr fx hw h0 lf_RX0_9 rfl dX0_add_39 hok (fun a8 h_a8 hok => ?_)
  refine lv_iload_n fx.1 fx.2.1 dX0_add_42 rfl (lv_at hl 0 rfl) ?_
  refine lv_iconst (v := 3) fx.1 fx.2.1 dX0_add_43 (by decide) ?_
  refine lv_iadd fx.1 fx.2.1 dX0_add_44 ?_
  refine lv_aload_n fx.1 fx.2.1 dX0_add_45 rfl (lv_at hl 3 rfl) ?_
  refine g_geti fx hw h2 lf_RX0_36 rfl dX0_add_46 ?_
  refine g_iast fx hw h_a8 dX0_add_49 hok (fun G9 H locs hw hok => ?_)
  refine lv_aload_n fx.1 fx.2.1 dX0_add_50 rfl (lv_at hl 1 rfl) ?_
  refine g_getr fx hw h0 lf_RX0_9 rfl dX0_add_51 hok (fun a10 h_a10 hok => ?_)
  refine lv_iload_n fx.1 fx.2.1 dX0_add_54 rfl (lv_at hl 0 rfl) ?_
  refine lv_iconst (v := 4) fx.1 fx.2.1 dX0_add_55 (by decide) ?_
  refine lv_iadd fx.1 fx.2.1 dX0_add_56 ?_
  refine lv_aload_n fx.1 fx.2.1 dX0_add_57 rfl (lv_at hl 3 rfl) ?_
  refine g_geti fx hw h2 lf_RX0_39 rfl dX0_add_58 ?_
  refine g_iast fx hw h_a10 dX0_add_61 hok (fun G11 H locs hw hok => ?_)
  refine lv_aload_n fx.1 fx.2.1 dX0_add_62 rfl (lv_at hl 1 rfl) ?_
  refine lv_aload_n fx.1 fx.2.1 dX0_add_63 rfl (lv_at hl 1 rfl) ?_
  refine g_geti fx hw h0 lf_RX0_25 rfl dX0_add_64 ?_
  refine lv_iconst (v := 1) fx.1 fx.2.1 dX0_add_67 (by decide) ?_
  refine lv_iadd fx.1 fx.2.1 dX0_add_68 ?_
  refine lv_bipush (v := 60) fx.1 fx.2.1 dX0_add_69 (by decide) ?_
  refine lv_irem fx.1 fx.2.1 dX0_add_71 (by decide) ?_
  refine g_puti fx hw h0 lp_RX0_25 rfl rfl dX0_add_72 hok (fun G12 H locs hw hok => ?_)
  refine lv_aload_n fx.1 fx.2.1 dX0_add_75 rfl (lv_at hl 1 rfl) ?_
  refine lv_aload_n fx.1 fx.2.1 dX0_add_76 rfl (lv_at hl 1 rfl) ?_
  refine g_geti fx hw h0 lf_RX0_21 rfl dX0_add_77 ?_
  refine lv_iconst (v := 1) fx.1 fx.2.1 dX0_add_80 (by decide) ?_
  refine lv_iadd fx.1 fx.2.1 dX0_add_81 ?_
  refine lv_bipush (v := 60) fx.1 fx.2.1 dX0_add_82 (by decide) ?_
  refine g_mmin fx hl.1 lm_RX0_42 lmst_min lm_init lmco_min ⟨Nat.le_of_ble_eq_true rfl, Nat.le_of_ble_eq_true rfl, Nat.le_of_ble_eq_true rfl, Nat.le_of_ble_eq_true rfl⟩ dX0_add_84 ?_
  refine g_puti fx hw h0 lp_RX0_21 rfl rfl dX0_add_87 hok (fun G13 H locs hw hok => ?_)
  cases gOk_some hok
  exact g_vret fx hw hr dX0_add_90
theorem dX0_cell_0 : decode cX0_cell 0 = .ok (.iload_n 1, 1) := by decide +kernel
theorem dX0_cell_1 : decode cX0_cell 1 = .ok (.ifCond .lt 11, 3) := by decide +kernel
theorem dX0_cell_4 : decode cX0_cell 4 = .ok (.iload_n 1, 1) := by decide +kernel
theorem dX0_cell_5 : decode cX0_cell 5 = .ok (.aload_n 0, 1) := by decide +kernel
theorem dX0_cell_6 : decode cX0_cell 6 = .ok (.getfield 21, 3) := by decide +kernel
theorem dX0_cell_9 : decode cX0_cell 9 = .ok (.if_icmp .lt 5, 3) := by decide +kernel
theorem dX0_cell_12 : decode cX0_cell 12 = .ok (.iconst (-1), 1) := by decide +kernel
theorem dX0_cell_13 : decode cX0_cell 13 = .ok (.ireturn, 1) := by decide +kernel
theorem dX0_cell_14 : decode cX0_cell 14 = .ok (.aload_n 0, 1) := by decide +kernel
theorem dX0_cell_15 : decode cX0_cell 15 = .ok (.getfield 25, 3) := by decide +kernel
theorem dX0_cell_18 : decode cX0_cell 18 = .ok (.bipush 60, 2) := by decide +kernel
theorem dX0_cell_20 : decode cX0_cell 20 = .ok (.iadd, 1) := by decide +kernel
theorem dX0_cell_21 : decode cX0_cell 21 = .ok (.iconst 1, 1) := by decide +kernel
theorem dX0_cell_22 : decode cX0_cell 22 = .ok (.isub, 1) := by decide +kernel
theorem dX0_cell_23 : decode cX0_cell 23 = .ok (.iload_n 1, 1) := by decide +kernel
theorem dX0_cell_24 : decode cX0_cell 24 = .ok (.isub, 1) := by decide +kernel
theorem dX0_cell_25 : decode cX0_cell 25 = .ok (.bipush 60, 2) := by decide +kernel
theorem dX0_cell_27 : decode cX0_cell 27 = .ok (.irem, 1) := by decide +kernel
theorem dX0_cell_28 : decode cX0_cell 28 = .ok (.istore_n 3, 1) := by decide +kernel
theorem dX0_cell_29 : decode cX0_cell 29 = .ok (.aload_n 0, 1) := by decide +kernel
theorem dX0_cell_30 : decode cX0_cell 30 = .ok (.getfield 9, 3) := by decide +kernel
theorem dX0_cell_33 : decode cX0_cell 33 = .ok (.iload_n 3, 1) := by decide +kernel
theorem dX0_cell_34 : decode cX0_cell 34 = .ok (.iconst 5, 1) := by decide +kernel
theorem dX0_cell_35 : decode cX0_cell 35 = .ok (.imul, 1) := by decide +kernel
theorem dX0_cell_36 : decode cX0_cell 36 = .ok (.iload_n 2, 1) := by decide +kernel
theorem dX0_cell_37 : decode cX0_cell 37 = .ok (.iadd, 1) := by decide +kernel
theorem dX0_cell_38 : decode cX0_cell 38 = .ok (.iaload, 1) := by decide +kernel
theorem dX0_cell_39 : decode cX0_cell 39 = .ok (.ireturn, 1) := by decide +kernel
def rm_X0_cell : Room := { frames := 0, cells := 0, slots := 0, locals := 0 }
def f_X0_cell (τ : gτ) (x0 : Nat) (x1 : Int32) (x2 : Int32) (G : gG) : Option (Int32) :=
  if x1 < 0 then (some ((-1)))
  else (if x1 < (gi G 0 1 x0) then (gLet (((((gi G 0 2 x0) + (60 : Int32)) - (1 : Int32)) - x1) - ((((gi G 0 2 x0) + (60 : Int32)) - (1 : Int32)) - x1) / (60 : Int32) * (60 : Int32)) fun v1 =>
  (gr G 0 0 x0).bind fun a2 =>
  gchk (gIn ((v1 * (5 : Int32)) + x2) (gn τ a2)) <|
  some (ge G a2 (Int32.toNatClampNeg ((v1 * (5 : Int32)) + x2))))
  else (some ((-1))))
set_option maxHeartbeats 4000000 in
set_option maxRecDepth 100000 in
theorem c_X0_cell (l : Launch) (X : gX) (τ : gτ) (x0 : Nat) (x1 : Int32) (x2 : Int32) (G : gG) (h0 : gK τ x0 0) {r : Int32}  (h : f_X0_cell τ x0 x1 x2 G = some r) : gM l X τ yX0_cell cX0_cell 4 (some .int) rm_X0_cell [.ref x0, .int x1, .int x2] G (some (.int r)) G := by
  refine g_body (by decide +kernel) (Nat.le_of_ble_eq_true rfl) ?_
  intro p e s m args below meth c ls fx hr hw hl
  have fx : gFx X p s m args meth c cX0_cell 4 RX0 := fx
  have hl : lv_has ls 4 [(0, .ref x0), (1, .int x1), (2, .int x2)] := hl
  have hok : gOk (f_X0_cell τ x0 x1 x2 G) (fun q => q = r) := ⟨_, h, rfl⟩
  unfold f_X0_cell at hok
  show W p l e rm_X0_cell s m args below meth c s.heap [] 0 0 (MQ below (gQ X τ (some (.int r)) G) args s 0 0 (gFree X)) _
  refine lv_iload_n fx.1 fx.2.1 dX0_cell_0 rfl (lv_at hl 1 rfl) ?_
  refine g_if_lt (tgt := 12) fx dX0_cell_1 (by decide) hok (fun hok => ?_) (fun hok => ?_)
  · refine lv_iconst (v := (-1)) fx.1 fx.2.1 dX0_cell_12 (by decide) ?_
    cases gOk_some hok
    exact g_iret fx hw hr dX0_cell_13
  · refine lv_iload_n fx.1 fx.2.1 dX0_cell_4 rfl (lv_at hl 1 rfl) ?_
    refine lv_aload_n fx.1 fx.2.1 dX0_cell_5 rfl (lv_at hl 0 rfl) ?_
    refine g_geti fx hw h0 lf_RX0_21 rfl dX0_cell_6 ?_
    refine g_icmp_lt (tgt := 14) fx dX0_cell_9 (by decide) hok (fun hok => ?_) (fun hok => ?_)
    · refine lv_aload_n fx.1 fx.2.1 dX0_cell_14 rfl (lv_at hl 0 rfl) ?_
      refine g_geti fx hw h0 lf_RX0_25 rfl dX0_cell_15 ?_
      refine lv_bipush (v := 60) fx.1 fx.2.1 dX0_cell_18 (by decide) ?_
      refine lv_iadd fx.1 fx.2.1 dX0_cell_20 ?_
      refine lv_iconst (v := 1) fx.1 fx.2.1 dX0_cell_21 (by decide) ?_
      refine lv_isub fx.1 fx.2.1 dX0_cell_22 ?_
      refine lv_iload_n fx.1 fx.2.1 dX0_cell_23 rfl (lv_at hl 1 rfl) ?_
      refine lv_isub fx.1 fx.2.1 dX0_cell_24 ?_
      refine lv_bipush (v := 60) fx.1 fx.2.1 dX0_cell_25 (by decide) ?_
      refine lv_irem fx.1 fx.2.1 dX0_cell_27 (by decide) ?_
      refine g_leti hok (fun v1 hok => ?_)
      refine lv_istore_n (lv' := [(3, .int v1), (0, .ref x0), (1, .int x1), (2, .int x2)]) fx.1 fx.2.1 dX0_cell_28 rfl hl (by decide) rfl (fun ls hl => ?_)
      refine lv_aload_n fx.1 fx.2.1 dX0_cell_29 rfl (lv_at hl 1 rfl) ?_
      refine g_getr fx hw h0 lf_RX0_9 rfl dX0_cell_30 hok (fun a2 h_a2 hok => ?_)
      refine lv_iload_n fx.1 fx.2.1 dX0_cell_33 rfl (lv_at hl 0 rfl) ?_
      refine lv_iconst (v := 5) fx.1 fx.2.1 dX0_cell_34 (by decide) ?_
      refine lv_imul fx.1 fx.2.1 dX0_cell_35 ?_
      refine lv_iload_n fx.1 fx.2.1 dX0_cell_36 rfl (lv_at hl 3 rfl) ?_
      refine lv_iadd fx.1 fx.2.1 dX0_cell_37 ?_
      refine g_iald fx hw h_a2 dX0_cell_38 hok (fun hok => ?_)
      cases gOk_some hok
      exact g_iret fx hw hr dX0_cell_39
    · refine lv_iconst (v := (-1)) fx.1 fx.2.1 dX0_cell_12 (by decide) ?_
      cases gOk_some hok
      exact g_iret fx hw hr dX0_cell_13
theorem dX0_isIn_0 : decode cX0_isIn 0 = .ok (.aload_n 0, 1) := by decide +kernel
theorem dX0_isIn_1 : decode cX0_isIn 1 = .ok (.iload_n 2, 1) := by decide +kernel
theorem dX0_isIn_2 : decode cX0_isIn 2 = .ok (.iconst 1, 1) := by decide +kernel
theorem dX0_isIn_3 : decode cX0_isIn 3 = .ok (.invokevirtual 52, 3) := by decide +kernel
theorem dX0_isIn_6 : decode cX0_isIn 6 = .ok (.iload_n 1, 1) := by decide +kernel
theorem dX0_isIn_7 : decode cX0_isIn 7 = .ok (.if_icmp .eq 23, 3) := by decide +kernel
theorem dX0_isIn_10 : decode cX0_isIn 10 = .ok (.aload_n 0, 1) := by decide +kernel
theorem dX0_isIn_11 : decode cX0_isIn 11 = .ok (.iload_n 2, 1) := by decide +kernel
theorem dX0_isIn_12 : decode cX0_isIn 12 = .ok (.iconst 2, 1) := by decide +kernel
theorem dX0_isIn_13 : decode cX0_isIn 13 = .ok (.invokevirtual 52, 3) := by decide +kernel
theorem dX0_isIn_16 : decode cX0_isIn 16 = .ok (.iload_n 1, 1) := by decide +kernel
theorem dX0_isIn_17 : decode cX0_isIn 17 = .ok (.if_icmp .eq 13, 3) := by decide +kernel
theorem dX0_isIn_20 : decode cX0_isIn 20 = .ok (.aload_n 0, 1) := by decide +kernel
theorem dX0_isIn_21 : decode cX0_isIn 21 = .ok (.iload_n 2, 1) := by decide +kernel
theorem dX0_isIn_22 : decode cX0_isIn 22 = .ok (.iconst 3, 1) := by decide +kernel
theorem dX0_isIn_23 : decode cX0_isIn 23 = .ok (.invokevirtual 52, 3) := by decide +kernel
theorem dX0_isIn_26 : decode cX0_isIn 26 = .ok (.iload_n 1, 1) := by decide +kernel
theorem dX0_isIn_27 : decode cX0_isIn 27 = .ok (.if_icmp .ne 7, 3) := by decide +kernel
theorem dX0_isIn_30 : decode cX0_isIn 30 = .ok (.iconst 1, 1) := by decide +kernel
theorem dX0_isIn_31 : decode cX0_isIn 31 = .ok (.goto 4, 3) := by decide +kernel
theorem dX0_isIn_34 : decode cX0_isIn 34 = .ok (.iconst 0, 1) := by decide +kernel
theorem dX0_isIn_35 : decode cX0_isIn 35 = .ok (.ireturn, 1) := by decide +kernel
theorem lv_RX0_52 : gLv RX0 52 RX0 yX0_cell cX0_cell 4 (some .int) 2 := gLv_of (wA_t (wt6 (List.mem_of_getElem? (i := 186) (by decide +kernel))) (by decide +kernel)) (wA_t (wt6 (List.mem_of_getElem? (i := 187) (by decide +kernel))) (by decide +kernel)) (wA_t (wt6 (List.mem_of_getElem? (i := 188) (by decide +kernel))) (by decide +kernel)) (wA_t (wt1 (List.mem_of_getElem? (i := 7) (by decide +kernel))) (by decide +kernel)) (wA_t (wt6 (List.mem_of_getElem? (i := 189) (by decide +kernel))) (by decide +kernel)) ⟨rfl, by decide +kernel, by decide +kernel, by decide +kernel⟩
def rm_X0_isIn : Room := { frames := 1, cells := 0, slots := 0, locals := 23 }
def f_X0_isIn (τ : gτ) (x0 : Nat) (x1 : Int32) (x2 : Int32) (G : gG) : Option (Int32) :=
  (f_X0_cell τ x0 x2 (1 : Int32) G).bind fun v1 =>
  if v1 = x1 then (some (1))
  else ((f_X0_cell τ x0 x2 (2 : Int32) G).bind fun v2 =>
  if v2 = x1 then (some (1))
  else ((f_X0_cell τ x0 x2 (3 : Int32) G).bind fun v3 =>
  if v3 = x1 then (some (1))
  else (some (0))))
set_option maxHeartbeats 4000000 in
set_option maxRecDepth 100000 in
theorem c_X0_isIn (l : Launch) (X : gX) (τ : gτ) (x0 : Nat) (x1 : Int32) (x2 : Int32) (G : gG) (h0 : gK τ x0 0) {r : Int32}  (h : f_X0_isIn τ x0 x1 x2 G = some r) : gM l X τ yX0_isIn cX0_isIn 3 (some .boolean) rm_X0_isIn [.ref x0, .int x1, .int x2] G (some (.int r)) G := by
  refine g_body (by decide +kernel) (Nat.le_of_ble_eq_true rfl) ?_
  intro p e s m args below meth c ls fx hr hw hl
  have fx : gFx X p s m args meth c cX0_isIn 3 RX0 := fx
  have hl : lv_has ls 3 [(0, .ref x0), (1, .int x1), (2, .int x2)] := hl
  have hok : gOk (f_X0_isIn τ x0 x1 x2 G) (fun q => q = r) := ⟨_, h, rfl⟩
  unfold f_X0_isIn at hok
  show W p l e rm_X0_isIn s m args below meth c s.heap [] 0 0 (MQ below (gQ X τ (some (.int r)) G) args s 0 0 (gFree X)) _
  refine lv_aload_n fx.1 fx.2.1 dX0_isIn_0 rfl (lv_at hl 0 rfl) ?_
  refine lv_iload_n fx.1 fx.2.1 dX0_isIn_1 rfl (lv_at hl 2 rfl) ?_
  refine lv_iconst (v := 1) fx.1 fx.2.1 dX0_isIn_2 (by decide) ?_
  obtain ⟨v1, hf, hok⟩ := gOk_bind hok
  refine g_callV0 (κ := 0) fx hw (c_X0_cell l X τ x0 x2 (1 : Int32) G h0 hf) lv_RX0_52 ⟨rfl, rfl⟩ rfl rfl h0 rfl hl.1 rfl ⟨Nat.le_of_ble_eq_true rfl, Nat.le_of_ble_eq_true rfl⟩ (Nat.le_of_ble_eq_true rfl) ⟨Nat.le_of_ble_eq_true rfl, Nat.le_of_ble_eq_true rfl⟩ dX0_isIn_3 (fun H locs hw => ?_)
  refine lv_iload_n fx.1 fx.2.1 dX0_isIn_6 rfl (lv_at hl 1 rfl) ?_
  refine g_icmp_eq (tgt := 30) fx dX0_isIn_7 (by decide) hok (fun hok => ?_) (fun hok => ?_)
  · refine lv_iconst (v := 1) fx.1 fx.2.1 dX0_isIn_30 (by decide) ?_
    refine lv_goto (tgt := 35) fx.1 fx.2.1 dX0_isIn_31 (by decide) ?_
    cases gOk_some hok
    exact g_zret fx hw hr (by decide) dX0_isIn_35
  · refine lv_aload_n fx.1 fx.2.1 dX0_isIn_10 rfl (lv_at hl 0 rfl) ?_
    refine lv_iload_n fx.1 fx.2.1 dX0_isIn_11 rfl (lv_at hl 2 rfl) ?_
    refine lv_iconst (v := 2) fx.1 fx.2.1 dX0_isIn_12 (by decide) ?_
    obtain ⟨v2, hf, hok⟩ := gOk_bind hok
    refine g_callV0 (κ := 0) fx hw (c_X0_cell l X τ x0 x2 (2 : Int32) G h0 hf) lv_RX0_52 ⟨rfl, rfl⟩ rfl rfl h0 rfl hl.1 rfl ⟨Nat.le_of_ble_eq_true rfl, Nat.le_of_ble_eq_true rfl⟩ (Nat.le_of_ble_eq_true rfl) ⟨Nat.le_of_ble_eq_true rfl, Nat.le_of_ble_eq_true rfl⟩ dX0_isIn_13 (fun H locs hw => ?_)
    refine lv_iload_n fx.1 fx.2.1 dX0_isIn_16 rfl (lv_at hl 1 rfl) ?_
    refine g_icmp_eq (tgt := 30) fx dX0_isIn_17 (by decide) hok (fun hok => ?_) (fun hok => ?_)
    · refine lv_iconst (v := 1) fx.1 fx.2.1 dX0_isIn_30 (by decide) ?_
      refine lv_goto (tgt := 35) fx.1 fx.2.1 dX0_isIn_31 (by decide) ?_
      cases gOk_some hok
      exact g_zret fx hw hr (by decide) dX0_isIn_35
    · refine lv_aload_n fx.1 fx.2.1 dX0_isIn_20 rfl (lv_at hl 0 rfl) ?_
      refine lv_iload_n fx.1 fx.2.1 dX0_isIn_21 rfl (lv_at hl 2 rfl) ?_
      refine lv_iconst (v := 3) fx.1 fx.2.1 dX0_isIn_22 (by decide) ?_
      obtain ⟨v3, hf, hok⟩ := gOk_bind hok
      refine g_callV0 (κ := 0) fx hw (c_X0_cell l X τ x0 x2 (3 : Int32) G h0 hf) lv_RX0_52 ⟨rfl, rfl⟩ rfl rfl h0 rfl hl.1 rfl ⟨Nat.le_of_ble_eq_true rfl, Nat.le_of_ble_eq_true rfl⟩ (Nat.le_of_ble_eq_true rfl) ⟨Nat.le_of_ble_eq_true rfl, Nat.le_of_ble_eq_true rfl⟩ dX0_isIn_23 (fun H locs hw => ?_)
      refine lv_iload_n fx.1 fx.2.1 dX0_isIn_26 rfl (lv_at hl 1 rfl) ?_
      refine g_icmp_ne (tgt := 34) fx dX0_isIn_27 (by decide) hok (fun hok => ?_) (fun hok => ?_)
      · refine lv_iconst (v := 1) fx.1 fx.2.1 dX0_isIn_30 (by decide) ?_
        refine lv_goto (tgt := 35) fx.1 fx.2.1 dX0_isIn_31 (by decide) ?_
        cases gOk_some hok
        exact g_zret fx hw hr (by decide) dX0_isIn_35
      · refine lv_iconst (v := 0) fx.1 fx.2.1 dX0_isIn_34 (by decide) ?_
        cases gOk_some hok
        exact g_zret fx hw hr (by decide) dX0_isIn_35
theorem dX0_rowsOf_0 : decode cX0_rowsOf 0 = .ok (.iconst 0, 1) := by decide +kernel
theorem dX0_rowsOf_1 : decode cX0_rowsOf 1 = .ok (.istore_n 2, 1) := by decide +kernel
theorem dX0_rowsOf_2 : decode cX0_rowsOf 2 = .ok (.iconst 0, 1) := by decide +kernel
theorem dX0_rowsOf_3 : decode cX0_rowsOf 3 = .ok (.istore_n 3, 1) := by decide +kernel
theorem dX0_rowsOf_4 : decode cX0_rowsOf 4 = .ok (.iload_n 3, 1) := by decide +kernel
theorem dX0_rowsOf_5 : decode cX0_rowsOf 5 = .ok (.aload_n 0, 1) := by decide +kernel
theorem dX0_rowsOf_6 : decode cX0_rowsOf 6 = .ok (.getfield 21, 3) := by decide +kernel
theorem dX0_rowsOf_9 : decode cX0_rowsOf 9 = .ok (.if_icmp .ge 26, 3) := by decide +kernel
theorem dX0_rowsOf_12 : decode cX0_rowsOf 12 = .ok (.iload_n 2, 1) := by decide +kernel
theorem dX0_rowsOf_13 : decode cX0_rowsOf 13 = .ok (.aload_n 0, 1) := by decide +kernel
theorem dX0_rowsOf_14 : decode cX0_rowsOf 14 = .ok (.iload_n 1, 1) := by decide +kernel
theorem dX0_rowsOf_15 : decode cX0_rowsOf 15 = .ok (.iload_n 3, 1) := by decide +kernel
theorem dX0_rowsOf_16 : decode cX0_rowsOf 16 = .ok (.invokevirtual 48, 3) := by decide +kernel
theorem dX0_rowsOf_19 : decode cX0_rowsOf 19 = .ok (.ifCond .eq 7, 3) := by decide +kernel
theorem dX0_rowsOf_22 : decode cX0_rowsOf 22 = .ok (.iconst 1, 1) := by decide +kernel
theorem dX0_rowsOf_23 : decode cX0_rowsOf 23 = .ok (.goto 4, 3) := by decide +kernel
theorem dX0_rowsOf_26 : decode cX0_rowsOf 26 = .ok (.iconst 0, 1) := by decide +kernel
theorem dX0_rowsOf_27 : decode cX0_rowsOf 27 = .ok (.iadd, 1) := by decide +kernel
theorem dX0_rowsOf_28 : decode cX0_rowsOf 28 = .ok (.istore_n 2, 1) := by decide +kernel
theorem dX0_rowsOf_29 : decode cX0_rowsOf 29 = .ok (.iinc 3 1, 3) := by decide +kernel
theorem dX0_rowsOf_32 : decode cX0_rowsOf 32 = .ok (.goto (-28), 3) := by decide +kernel
theorem dX0_rowsOf_35 : decode cX0_rowsOf 35 = .ok (.iload_n 2, 1) := by decide +kernel
theorem dX0_rowsOf_36 : decode cX0_rowsOf 36 = .ok (.ireturn, 1) := by decide +kernel
theorem lv_RX0_48 : gLv RX0 48 RX0 yX0_isIn cX0_isIn 3 (some .boolean) 2 := gLv_of (wA_t (wt6 (List.mem_of_getElem? (i := 182) (by decide +kernel))) (by decide +kernel)) (wA_t (wt6 (List.mem_of_getElem? (i := 184) (by decide +kernel))) (by decide +kernel)) (wA_of (List.mem_append_left _ (List.mem_map.mpr ⟨(⟨"YearRope$BreakLog", "isIn", "(II)Z"⟩, 3), wp3 (List.mem_of_getElem? (i := 9) (by decide +kernel)), rfl⟩)) (by decide +kernel)) (wA_t (wt1 (List.mem_of_getElem? (i := 7) (by decide +kernel))) (by decide +kernel)) (wA_t (wt6 (List.mem_of_getElem? (i := 185) (by decide +kernel))) (by decide +kernel)) ⟨rfl, by decide +kernel, by decide +kernel, by decide +kernel⟩
def rm_X0_rowsOf : Room := { frames := 2, cells := 0, slots := 0, locals := 45 }
def k_X0_rowsOf_27 (τ : gτ) (n : Nat) (x0 : Nat) (x1 : Int32) (x3 : Int32) (s0 : Int32) (s1 : Int32) (G : gG) : Option ((Int32 × Int32) ⊕ ((Int32))) :=
  gLet (s0 + s1) fun v2 =>
  gLet (x3 + 1) fun v3 =>
  some (.inl (v2, v3))
def b_X0_rowsOf_4 (τ : gτ) (n : Nat) (x0 : Nat) (x1 : Int32) (x2 : Int32) (x3 : Int32) (G : gG) : Option ((Int32 × Int32) ⊕ ((Int32))) :=
  if (gi G 0 1 x0) ≤ x3 then (some (.inr x2))
  else ((f_X0_isIn τ x0 x1 x3 G).bind fun v1 =>
  if v1 = 0 then (k_X0_rowsOf_27 τ n x0 x1 x3 x2 (0 : Int32) G)
  else (k_X0_rowsOf_27 τ n x0 x1 x3 x2 (1 : Int32) G))
def l_X0_rowsOf_4 (τ : gτ) (n : Nat) (x0 : Nat) (x1 : Int32) (x2 : Int32) (x3 : Int32) (G : gG) : Option ((Int32)) :=
  gIter (fun (q : Int32 × Int32) => b_X0_rowsOf_4 τ n x0 x1 q.1 q.2 G) n (x2, x3)
def f_X0_rowsOf (τ : gτ) (n : Nat) (x0 : Nat) (x1 : Int32) (G : gG) : Option (Int32) :=
  (l_X0_rowsOf_4 τ n x0 x1 (0 : Int32) (0 : Int32) G).bind fun q => gLet q fun z4 => 
  some (z4)
set_option maxHeartbeats 4000000 in
set_option maxRecDepth 100000 in
theorem w_X0_rowsOf_27 {X : gX} {τ : gτ} {p : Program} {l : Launch} {e : Env} {s : State} {m : MethodId} {args : Array Value} {below : List Frame} {meth : Method} {c : Code} (fx : gFx X p s m args meth c cX0_rowsOf 4 RX0) (n : Nat) (x0 : Nat) (x1 : Int32) (x3 : Int32) (s0 : Int32) (s1 : Int32) (h0 : gK τ x0 0)  {Q : State → Prop} {K : ((Int32 × Int32) ⊕ ((Int32))) → Prop} {G : gG} {H : Heap} {locs : List Loc} {ls : Array Slot} (hw : gHw X τ G H locs) (hl : lv_has ls 4 [(0, .ref x0), (1, .int x1), (3, .int x3)]) (hok : gOk (k_X0_rowsOf_27 τ n x0 x1 x3 s0 s1 G) K) (hc : ∀ (y2 : Int32) (y3 : Int32) (H : Heap) (locs : List Loc) (ls : Array Slot), gHw X τ G H locs → lv_has ls 4 [(0, .ref x0), (1, .int x1), (2, .int y2), (3, .int y3)] → K (.inl (y2, y3)) → W p l e rm_X0_rowsOf s m args below meth c H locs 0 0 Q (F0 m 4 ls [])) (hx0 : ∀ (y2 : Int32) (H : Heap) (locs : List Loc) (ls : Array Slot), gHw X τ G H locs → lv_has ls 4 [(2, .int y2)] → K (.inr y2) → W p l e rm_X0_rowsOf s m args below meth c H locs 0 0 Q (F0 m 35 ls [])) : W p l e rm_X0_rowsOf s m args below meth c H locs 0 0 Q (F0 m 27 ls [.int s1, .int s0]) := by
  unfold k_X0_rowsOf_27 at hok
  refine lv_iadd fx.1 fx.2.1 dX0_rowsOf_27 ?_
  refine g_leti hok (fun v2 hok => ?_)
  refine lv_istore_n (lv' := [(2, .int v2), (0, .ref x0), (1, .int x1), (3, .int x3)]) fx.1 fx.2.1 dX0_rowsOf_28 rfl hl (by decide) rfl (fun ls hl => ?_)
  obtain ⟨v3, e_v3, hok⟩ := gOk_let hok
  refine lv_iinc (v := v3) (lv' := [(3, .int v3), (2, .int v2), (0, .ref x0), (1, .int x1)]) fx.1 fx.2.1 dX0_rowsOf_29 hl (k := 3) rfl (by rw [e_v3]; rfl) (by decide) rfl (fun ls hl => ?_)
  refine lv_goto (tgt := 4) fx.1 fx.2.1 dX0_rowsOf_32 (by decide) ?_
  exact hc v2 v3  _ _ _  hw (lv_sub hl [2, 3, 1, 0] rfl) (gOk_some hok)
set_option maxHeartbeats 4000000 in
set_option maxRecDepth 100000 in
theorem w_b_X0_rowsOf_4 {X : gX} {τ : gτ} {p : Program} {l : Launch} {e : Env} {s : State} {m : MethodId} {args : Array Value} {below : List Frame} {meth : Method} {c : Code} (fx : gFx X p s m args meth c cX0_rowsOf 4 RX0) (n : Nat) (x0 : Nat) (x1 : Int32) (x2 : Int32) (x3 : Int32) (h0 : gK τ x0 0) {Q : State → Prop} {K : ((Int32 × Int32) ⊕ ((Int32))) → Prop} {G : gG} {H : Heap} {locs : List Loc} {ls : Array Slot} (hw : gHw X τ G H locs) (hl : lv_has ls 4 [(0, .ref x0), (1, .int x1), (2, .int x2), (3, .int x3)]) (hok : gOk (b_X0_rowsOf_4 τ n x0 x1 x2 x3 G) K) (hc : ∀ (y2 : Int32) (y3 : Int32) (H : Heap) (locs : List Loc) (ls : Array Slot), gHw X τ G H locs → lv_has ls 4 [(0, .ref x0), (1, .int x1), (2, .int y2), (3, .int y3)] → K (.inl (y2, y3)) → W p l e rm_X0_rowsOf s m args below meth c H locs 0 0 Q (F0 m 4 ls [])) (hx0 : ∀ (y2 : Int32) (H : Heap) (locs : List Loc) (ls : Array Slot), gHw X τ G H locs → lv_has ls 4 [(2, .int y2)] → K (.inr y2) → W p l e rm_X0_rowsOf s m args below meth c H locs 0 0 Q (F0 m 35 ls [])) : W p l e rm_X0_rowsOf s m args below meth c H locs 0 0 Q (F0 m 4 ls []) := by
  unfold b_X0_rowsOf_4 at hok
  refine lv_iload_n fx.1 fx.2.1 dX0_rowsOf_4 rfl (lv_at hl 3 rfl) ?_
  refine lv_aload_n fx.1 fx.2.1 dX0_rowsOf_5 rfl (lv_at hl 0 rfl) ?_
  refine g_geti fx hw h0 lf_RX0_21 rfl dX0_rowsOf_6 ?_
  refine g_icmp_ge (tgt := 35) fx dX0_rowsOf_9 (by decide) hok (fun hok => ?_) (fun hok => ?_)
  · exact hx0 x2  _ _ _  hw (lv_sub hl [2] rfl) (gOk_some hok)
  · refine lv_iload_n fx.1 fx.2.1 dX0_rowsOf_12 rfl (lv_at hl 2 rfl) ?_
    refine lv_aload_n fx.1 fx.2.1 dX0_rowsOf_13 rfl (lv_at hl 0 rfl) ?_
    refine lv_iload_n fx.1 fx.2.1 dX0_rowsOf_14 rfl (lv_at hl 1 rfl) ?_
    refine lv_iload_n fx.1 fx.2.1 dX0_rowsOf_15 rfl (lv_at hl 3 rfl) ?_
    obtain ⟨v1, hf, hok⟩ := gOk_bind hok
    refine g_callV0 (κ := 0) fx hw (c_X0_isIn l X τ x0 x1 x3 G h0 hf) lv_RX0_48 ⟨rfl, rfl⟩ rfl rfl h0 rfl hl.1 rfl ⟨Nat.le_of_ble_eq_true rfl, Nat.le_of_ble_eq_true rfl⟩ (Nat.le_of_ble_eq_true rfl) ⟨Nat.le_of_ble_eq_true rfl, Nat.le_of_ble_eq_true rfl⟩ dX0_rowsOf_16 (fun H locs hw => ?_)
    refine g_if_eq (tgt := 26) fx dX0_rowsOf_19 (by decide) hok (fun hok => ?_) (fun hok => ?_)
    · refine lv_iconst (v := 0) fx.1 fx.2.1 dX0_rowsOf_26 (by decide) ?_
      exact w_X0_rowsOf_27 fx n x0 x1 x3 x2 (0 : Int32) h0  hw (lv_sub hl [0, 1, 3] rfl) hok hc hx0
    · refine lv_iconst (v := 1) fx.1 fx.2.1 dX0_rowsOf_22 (by decide) ?_
      refine lv_goto (tgt := 27) fx.1 fx.2.1 dX0_rowsOf_23 (by decide) ?_
      exact w_X0_rowsOf_27 fx n x0 x1 x3 x2 (1 : Int32) h0  hw (lv_sub hl [0, 1, 3] rfl) hok hc hx0
theorem w_l_X0_rowsOf_4 {X : gX} {τ : gτ} {p : Program} {l : Launch} {e : Env} {s : State} {m : MethodId} {args : Array Value} {below : List Frame} {meth : Method} {c : Code} (fx : gFx X p s m args meth c cX0_rowsOf 4 RX0) (n : Nat) (x0 : Nat) (x1 : Int32) (h0 : gK τ x0 0) (G : gG) {Q : State → Prop} {K : ((Int32)) → Prop} (hx0 : ∀ (y2 : Int32) (H : Heap) (locs : List Loc) (ls : Array Slot), gHw X τ G H locs → lv_has ls 4 [(2, .int y2)] → K y2 → W p l e rm_X0_rowsOf s m args below meth c H locs 0 0 Q (F0 m 35 ls [])) : ∀ (k : Nat) (x2 : Int32) (x3 : Int32) (H : Heap) (locs : List Loc) (ls : Array Slot), gHw X τ G H locs → lv_has ls 4 [(0, .ref x0), (1, .int x1), (2, .int x2), (3, .int x3)] → gOk (gIter (fun (q : Int32 × Int32) => b_X0_rowsOf_4 τ n x0 x1 q.1 q.2 G) k (x2, x3)) K → W p l e rm_X0_rowsOf s m args below meth c H locs 0 0 Q (F0 m 4 ls []) := by
  intro k
  induction k with
  | zero =>
    intro x2 x3  H locs ls hw hl hok
    exact gOk_iter0 hok
  | succ k hc =>
    intro x2 x3  H locs ls hw hl hok
    exact w_b_X0_rowsOf_4 fx n x0 x1 x2 x3 h0 hw hl (gOk_iter hok) hc hx0
set_option maxHeartbeats 4000000 in
set_option maxRecDepth 100000 in
theorem c_X0_rowsOf (l : Launch) (X : gX) (τ : gτ) (n : Nat) (x0 : Nat) (x1 : Int32) (G : gG) (h0 : gK τ x0 0) {r : Int32}  (h : f_X0_rowsOf τ n x0 x1 G = some r) : gM l X τ yX0_rowsOf cX0_rowsOf 4 (some .int) rm_X0_rowsOf [.ref x0, .int x1] G (some (.int r)) G := by
  refine g_body (by decide +kernel) (Nat.le_of_ble_eq_true rfl) ?_
  intro p e s m args below meth c ls fx hr hw hl
  have fx : gFx X p s m args meth c cX0_rowsOf 4 RX0 := fx
  have hl : lv_has ls 4 [(0, .ref x0), (1, .int x1)] := hl
  have hok : gOk (f_X0_rowsOf τ n x0 x1 G) (fun q => q = r) := ⟨_, h, rfl⟩
  unfold f_X0_rowsOf at hok
  show W p l e rm_X0_rowsOf s m args below meth c s.heap [] 0 0 (MQ below (gQ X τ (some (.int r)) G) args s 0 0 (gFree X)) _
  refine lv_iconst (v := 0) fx.1 fx.2.1 dX0_rowsOf_0 (by decide) ?_
  refine lv_istore_n (lv' := [(2, .int (0 : Int32)), (0, .ref x0), (1, .int x1)]) fx.1 fx.2.1 dX0_rowsOf_1 rfl hl (by decide) rfl (fun ls hl => ?_)
  refine lv_iconst (v := 0) fx.1 fx.2.1 dX0_rowsOf_2 (by decide) ?_
  refine lv_istore_n (lv' := [(3, .int (0 : Int32)), (2, .int (0 : Int32)), (0, .ref x0), (1, .int x1)]) fx.1 fx.2.1 dX0_rowsOf_3 rfl hl (by decide) rfl (fun ls hl => ?_)
  refine w_l_X0_rowsOf_4 fx n x0 x1 h0 G ?_ n (0 : Int32) (0 : Int32)  _ _ _  hw (lv_sub hl [2, 3, 1, 0] rfl) (gOk_bindK hok)
  intro z4  H locs ls hw hl hok
  have hok : gOk (ρ := Int32) (some (z4)) _ := hok
  refine lv_iload_n fx.1 fx.2.1 dX0_rowsOf_35 rfl (lv_at hl 0 rfl) ?_
  cases gOk_some hok
  exact g_iret fx hw hr dX0_rowsOf_36
theorem dX0_loadsOf_0 : decode cX0_loadsOf 0 = .ok (.iconst 0, 1) := by decide +kernel
theorem dX0_loadsOf_1 : decode cX0_loadsOf 1 = .ok (.istore_n 2, 1) := by decide +kernel
theorem dX0_loadsOf_2 : decode cX0_loadsOf 2 = .ok (.iconst 0, 1) := by decide +kernel
theorem dX0_loadsOf_3 : decode cX0_loadsOf 3 = .ok (.istore_n 3, 1) := by decide +kernel
theorem dX0_loadsOf_4 : decode cX0_loadsOf 4 = .ok (.iload_n 3, 1) := by decide +kernel
theorem dX0_loadsOf_5 : decode cX0_loadsOf 5 = .ok (.aload_n 0, 1) := by decide +kernel
theorem dX0_loadsOf_6 : decode cX0_loadsOf 6 = .ok (.getfield 21, 3) := by decide +kernel
theorem dX0_loadsOf_9 : decode cX0_loadsOf 9 = .ok (.if_icmp .ge 31, 3) := by decide +kernel
theorem dX0_loadsOf_12 : decode cX0_loadsOf 12 = .ok (.iload_n 2, 1) := by decide +kernel
theorem dX0_loadsOf_13 : decode cX0_loadsOf 13 = .ok (.aload_n 0, 1) := by decide +kernel
theorem dX0_loadsOf_14 : decode cX0_loadsOf 14 = .ok (.iload_n 1, 1) := by decide +kernel
theorem dX0_loadsOf_15 : decode cX0_loadsOf 15 = .ok (.iload_n 3, 1) := by decide +kernel
theorem dX0_loadsOf_16 : decode cX0_loadsOf 16 = .ok (.invokevirtual 48, 3) := by decide +kernel
theorem dX0_loadsOf_19 : decode cX0_loadsOf 19 = .ok (.ifCond .eq 12, 3) := by decide +kernel
theorem dX0_loadsOf_22 : decode cX0_loadsOf 22 = .ok (.aload_n 0, 1) := by decide +kernel
theorem dX0_loadsOf_23 : decode cX0_loadsOf 23 = .ok (.iload_n 3, 1) := by decide +kernel
theorem dX0_loadsOf_24 : decode cX0_loadsOf 24 = .ok (.iconst 4, 1) := by decide +kernel
theorem dX0_loadsOf_25 : decode cX0_loadsOf 25 = .ok (.invokevirtual 52, 3) := by decide +kernel
theorem dX0_loadsOf_28 : decode cX0_loadsOf 28 = .ok (.goto 4, 3) := by decide +kernel
theorem dX0_loadsOf_31 : decode cX0_loadsOf 31 = .ok (.iconst 0, 1) := by decide +kernel
theorem dX0_loadsOf_32 : decode cX0_loadsOf 32 = .ok (.iadd, 1) := by decide +kernel
theorem dX0_loadsOf_33 : decode cX0_loadsOf 33 = .ok (.istore_n 2, 1) := by decide +kernel
theorem dX0_loadsOf_34 : decode cX0_loadsOf 34 = .ok (.iinc 3 1, 3) := by decide +kernel
theorem dX0_loadsOf_37 : decode cX0_loadsOf 37 = .ok (.goto (-33), 3) := by decide +kernel
theorem dX0_loadsOf_40 : decode cX0_loadsOf 40 = .ok (.iload_n 2, 1) := by decide +kernel
theorem dX0_loadsOf_41 : decode cX0_loadsOf 41 = .ok (.ireturn, 1) := by decide +kernel
def rm_X0_loadsOf : Room := { frames := 2, cells := 0, slots := 0, locals := 45 }
def k_X0_loadsOf_32 (τ : gτ) (n : Nat) (x0 : Nat) (x1 : Int32) (x3 : Int32) (s0 : Int32) (s1 : Int32) (G : gG) : Option ((Int32 × Int32) ⊕ ((Int32))) :=
  gLet (s0 + s1) fun v2 =>
  gLet (x3 + 1) fun v3 =>
  some (.inl (v2, v3))
def b_X0_loadsOf_4 (τ : gτ) (n : Nat) (x0 : Nat) (x1 : Int32) (x2 : Int32) (x3 : Int32) (G : gG) : Option ((Int32 × Int32) ⊕ ((Int32))) :=
  if (gi G 0 1 x0) ≤ x3 then (some (.inr x2))
  else ((f_X0_isIn τ x0 x1 x3 G).bind fun v1 =>
  if v1 = 0 then (k_X0_loadsOf_32 τ n x0 x1 x3 x2 (0 : Int32) G)
  else ((f_X0_cell τ x0 x3 (4 : Int32) G).bind fun v4 =>
  k_X0_loadsOf_32 τ n x0 x1 x3 x2 v4 G))
def l_X0_loadsOf_4 (τ : gτ) (n : Nat) (x0 : Nat) (x1 : Int32) (x2 : Int32) (x3 : Int32) (G : gG) : Option ((Int32)) :=
  gIter (fun (q : Int32 × Int32) => b_X0_loadsOf_4 τ n x0 x1 q.1 q.2 G) n (x2, x3)
def f_X0_loadsOf (τ : gτ) (n : Nat) (x0 : Nat) (x1 : Int32) (G : gG) : Option (Int32) :=
  (l_X0_loadsOf_4 τ n x0 x1 (0 : Int32) (0 : Int32) G).bind fun q => gLet q fun z5 => 
  some (z5)
set_option maxHeartbeats 4000000 in
set_option maxRecDepth 100000 in
theorem w_X0_loadsOf_32 {X : gX} {τ : gτ} {p : Program} {l : Launch} {e : Env} {s : State} {m : MethodId} {args : Array Value} {below : List Frame} {meth : Method} {c : Code} (fx : gFx X p s m args meth c cX0_loadsOf 4 RX0) (n : Nat) (x0 : Nat) (x1 : Int32) (x3 : Int32) (s0 : Int32) (s1 : Int32) (h0 : gK τ x0 0)  {Q : State → Prop} {K : ((Int32 × Int32) ⊕ ((Int32))) → Prop} {G : gG} {H : Heap} {locs : List Loc} {ls : Array Slot} (hw : gHw X τ G H locs) (hl : lv_has ls 4 [(0, .ref x0), (1, .int x1), (3, .int x3)]) (hok : gOk (k_X0_loadsOf_32 τ n x0 x1 x3 s0 s1 G) K) (hc : ∀ (y2 : Int32) (y3 : Int32) (H : Heap) (locs : List Loc) (ls : Array Slot), gHw X τ G H locs → lv_has ls 4 [(0, .ref x0), (1, .int x1), (2, .int y2), (3, .int y3)] → K (.inl (y2, y3)) → W p l e rm_X0_loadsOf s m args below meth c H locs 0 0 Q (F0 m 4 ls [])) (hx0 : ∀ (y2 : Int32) (H : Heap) (locs : List Loc) (ls : Array Slot), gHw X τ G H locs → lv_has ls 4 [(2, .int y2)] → K (.inr y2) → W p l e rm_X0_loadsOf s m args below meth c H locs 0 0 Q (F0 m 40 ls [])) : W p l e rm_X0_loadsOf s m args below meth c H locs 0 0 Q (F0 m 32 ls [.int s1, .int s0]) := by
  unfold k_X0_loadsOf_32 at hok
  refine lv_iadd fx.1 fx.2.1 dX0_loadsOf_32 ?_
  refine g_leti hok (fun v2 hok => ?_)
  refine lv_istore_n (lv' := [(2, .int v2), (0, .ref x0), (1, .int x1), (3, .int x3)]) fx.1 fx.2.1 dX0_loadsOf_33 rfl hl (by decide) rfl (fun ls hl => ?_)
  obtain ⟨v3, e_v3, hok⟩ := gOk_let hok
  refine lv_iinc (v := v3) (lv' := [(3, .int v3), (2, .int v2), (0, .ref x0), (1, .int x1)]) fx.1 fx.2.1 dX0_loadsOf_34 hl (k := 3) rfl (by rw [e_v3]; rfl) (by decide) rfl (fun ls hl => ?_)
  refine lv_goto (tgt := 4) fx.1 fx.2.1 dX0_loadsOf_37 (by decide) ?_
  exact hc v2 v3  _ _ _  hw (lv_sub hl [2, 3, 1, 0] rfl) (gOk_some hok)
set_option maxHeartbeats 4000000 in
set_option maxRecDepth 100000 in
theorem w_b_X0_loadsOf_4 {X : gX} {τ : gτ} {p : Program} {l : Launch} {e : Env} {s : State} {m : MethodId} {args : Array Value} {below : List Frame} {meth : Method} {c : Code} (fx : gFx X p s m args meth c cX0_loadsOf 4 RX0) (n : Nat) (x0 : Nat) (x1 : Int32) (x2 : Int32) (x3 : Int32) (h0 : gK τ x0 0) {Q : State → Prop} {K : ((Int32 × Int32) ⊕ ((Int32))) → Prop} {G : gG} {H : Heap} {locs : List Loc} {ls : Array Slot} (hw : gHw X τ G H locs) (hl : lv_has ls 4 [(0, .ref x0), (1, .int x1), (2, .int x2), (3, .int x3)]) (hok : gOk (b_X0_loadsOf_4 τ n x0 x1 x2 x3 G) K) (hc : ∀ (y2 : Int32) (y3 : Int32) (H : Heap) (locs : List Loc) (ls : Array Slot), gHw X τ G H locs → lv_has ls 4 [(0, .ref x0), (1, .int x1), (2, .int y2), (3, .int y3)] → K (.inl (y2, y3)) → W p l e rm_X0_loadsOf s m args below meth c H locs 0 0 Q (F0 m 4 ls [])) (hx0 : ∀ (y2 : Int32) (H : Heap) (locs : List Loc) (ls : Array Slot), gHw X τ G H locs → lv_has ls 4 [(2, .int y2)] → K (.inr y2) → W p l e rm_X0_loadsOf s m args below meth c H locs 0 0 Q (F0 m 40 ls [])) : W p l e rm_X0_loadsOf s m args below meth c H locs 0 0 Q (F0 m 4 ls []) := by
  unfold b_X0_loadsOf_4 at hok
  refine lv_iload_n fx.1 fx.2.1 dX0_loadsOf_4 rfl (lv_at hl 3 rfl) ?_
  refine lv_aload_n fx.1 fx.2.1 dX0_loadsOf_5 rfl (lv_at hl 0 rfl) ?_
  refine g_geti fx hw h0 lf_RX0_21 rfl dX0_loadsOf_6 ?_
  refine g_icmp_ge (tgt := 40) fx dX0_loadsOf_9 (by decide) hok (fun hok => ?_) (fun hok => ?_)
  · exact hx0 x2  _ _ _  hw (lv_sub hl [2] rfl) (gOk_some hok)
  · refine lv_iload_n fx.1 fx.2.1 dX0_loadsOf_12 rfl (lv_at hl 2 rfl) ?_
    refine lv_aload_n fx.1 fx.2.1 dX0_loadsOf_13 rfl (lv_at hl 0 rfl) ?_
    refine lv_iload_n fx.1 fx.2.1 dX0_loadsOf_14 rfl (lv_at hl 1 rfl) ?_
    refine lv_iload_n fx.1 fx.2.1 dX0_loadsOf_15 rfl (lv_at hl 3 rfl) ?_
    obtain ⟨v1, hf, hok⟩ := gOk_bind hok
    refine g_callV0 (κ := 0) fx hw (c_X0_isIn l X τ x0 x1 x3 G h0 hf) lv_RX0_48 ⟨rfl, rfl⟩ rfl rfl h0 rfl hl.1 rfl ⟨Nat.le_of_ble_eq_true rfl, Nat.le_of_ble_eq_true rfl⟩ (Nat.le_of_ble_eq_true rfl) ⟨Nat.le_of_ble_eq_true rfl, Nat.le_of_ble_eq_true rfl⟩ dX0_loadsOf_16 (fun H locs hw => ?_)
    refine g_if_eq (tgt := 31) fx dX0_loadsOf_19 (by decide) hok (fun hok => ?_) (fun hok => ?_)
    · refine lv_iconst (v := 0) fx.1 fx.2.1 dX0_loadsOf_31 (by decide) ?_
      exact w_X0_loadsOf_32 fx n x0 x1 x3 x2 (0 : Int32) h0  hw (lv_sub hl [0, 1, 3] rfl) hok hc hx0
    · refine lv_aload_n fx.1 fx.2.1 dX0_loadsOf_22 rfl (lv_at hl 0 rfl) ?_
      refine lv_iload_n fx.1 fx.2.1 dX0_loadsOf_23 rfl (lv_at hl 3 rfl) ?_
      refine lv_iconst (v := 4) fx.1 fx.2.1 dX0_loadsOf_24 (by decide) ?_
      obtain ⟨v4, hf, hok⟩ := gOk_bind hok
      refine g_callV0 (κ := 0) fx hw (c_X0_cell l X τ x0 x3 (4 : Int32) G h0 hf) lv_RX0_52 ⟨rfl, rfl⟩ rfl rfl h0 rfl hl.1 rfl ⟨Nat.le_of_ble_eq_true rfl, Nat.le_of_ble_eq_true rfl⟩ (Nat.le_of_ble_eq_true rfl) ⟨Nat.le_of_ble_eq_true rfl, Nat.le_of_ble_eq_true rfl⟩ dX0_loadsOf_25 (fun H locs hw => ?_)
      refine lv_goto (tgt := 32) fx.1 fx.2.1 dX0_loadsOf_28 (by decide) ?_
      exact w_X0_loadsOf_32 fx n x0 x1 x3 x2 v4 h0  hw (lv_sub hl [0, 1, 3] rfl) hok hc hx0
theorem w_l_X0_loadsOf_4 {X : gX} {τ : gτ} {p : Program} {l : Launch} {e : Env} {s : State} {m : MethodId} {args : Array Value} {below : List Frame} {meth : Method} {c : Code} (fx : gFx X p s m args meth c cX0_loadsOf 4 RX0) (n : Nat) (x0 : Nat) (x1 : Int32) (h0 : gK τ x0 0) (G : gG) {Q : State → Prop} {K : ((Int32)) → Prop} (hx0 : ∀ (y2 : Int32) (H : Heap) (locs : List Loc) (ls : Array Slot), gHw X τ G H locs → lv_has ls 4 [(2, .int y2)] → K y2 → W p l e rm_X0_loadsOf s m args below meth c H locs 0 0 Q (F0 m 40 ls [])) : ∀ (k : Nat) (x2 : Int32) (x3 : Int32) (H : Heap) (locs : List Loc) (ls : Array Slot), gHw X τ G H locs → lv_has ls 4 [(0, .ref x0), (1, .int x1), (2, .int x2), (3, .int x3)] → gOk (gIter (fun (q : Int32 × Int32) => b_X0_loadsOf_4 τ n x0 x1 q.1 q.2 G) k (x2, x3)) K → W p l e rm_X0_loadsOf s m args below meth c H locs 0 0 Q (F0 m 4 ls []) := by
  intro k
  induction k with
  | zero =>
    intro x2 x3  H locs ls hw hl hok
    exact gOk_iter0 hok
  | succ k hc =>
    intro x2 x3  H locs ls hw hl hok
    exact w_b_X0_loadsOf_4 fx n x0 x1 x2 x3 h0 hw hl (gOk_iter hok) hc hx0
set_option maxHeartbeats 4000000 in
set_option maxRecDepth 100000 in
theorem c_X0_loadsOf (l : Launch) (X : gX) (τ : gτ) (n : Nat) (x0 : Nat) (x1 : Int32) (G : gG) (h0 : gK τ x0 0) {r : Int32}  (h : f_X0_loadsOf τ n x0 x1 G = some r) : gM l X τ yX0_loadsOf cX0_loadsOf 4 (some .int) rm_X0_loadsOf [.ref x0, .int x1] G (some (.int r)) G := by
  refine g_body (by decide +kernel) (Nat.le_of_ble_eq_true rfl) ?_
  intro p e s m args below meth c ls fx hr hw hl
  have fx : gFx X p s m args meth c cX0_loadsOf 4 RX0 := fx
  have hl : lv_has ls 4 [(0, .ref x0), (1, .int x1)] := hl
  have hok : gOk (f_X0_loadsOf τ n x0 x1 G) (fun q => q = r) := ⟨_, h, rfl⟩
  unfold f_X0_loadsOf at hok
  show W p l e rm_X0_loadsOf s m args below meth c s.heap [] 0 0 (MQ below (gQ X τ (some (.int r)) G) args s 0 0 (gFree X)) _
  refine lv_iconst (v := 0) fx.1 fx.2.1 dX0_loadsOf_0 (by decide) ?_
  refine lv_istore_n (lv' := [(2, .int (0 : Int32)), (0, .ref x0), (1, .int x1)]) fx.1 fx.2.1 dX0_loadsOf_1 rfl hl (by decide) rfl (fun ls hl => ?_)
  refine lv_iconst (v := 0) fx.1 fx.2.1 dX0_loadsOf_2 (by decide) ?_
  refine lv_istore_n (lv' := [(3, .int (0 : Int32)), (2, .int (0 : Int32)), (0, .ref x0), (1, .int x1)]) fx.1 fx.2.1 dX0_loadsOf_3 rfl hl (by decide) rfl (fun ls hl => ?_)
  refine w_l_X0_loadsOf_4 fx n x0 x1 h0 G ?_ n (0 : Int32) (0 : Int32)  _ _ _  hw (lv_sub hl [2, 3, 1, 0] rfl) (gOk_bindK hok)
  intro z5  H locs ls hw hl hok
  have hok : gOk (ρ := Int32) (some (z5)) _ := hok
  refine lv_iload_n fx.1 fx.2.1 dX0_loadsOf_40 rfl (lv_at hl 0 rfl) ?_
  cases gOk_some hok
  exact g_iret fx hw hr dX0_loadsOf_41
theorem dX1_become_0 : decode cX1_become 0 = .ok (.aload_n 1, 1) := by decide +kernel
theorem dX1_become_1 : decode cX1_become 1 = .ok (.getfield 9, 3) := by decide +kernel
theorem dX1_become_4 : decode cX1_become 4 = .ok (.iconst 0, 1) := by decide +kernel
theorem dX1_become_5 : decode cX1_become 5 = .ok (.aload_n 0, 1) := by decide +kernel
theorem dX1_become_6 : decode cX1_become 6 = .ok (.getfield 9, 3) := by decide +kernel
theorem dX1_become_9 : decode cX1_become 9 = .ok (.iconst 0, 1) := by decide +kernel
theorem dX1_become_10 : decode cX1_become 10 = .ok (.bipush 12, 2) := by decide +kernel
theorem dX1_become_12 : decode cX1_become 12 = .ok (.invokestatic 30, 3) := by decide +kernel
theorem dX1_become_15 : decode cX1_become 15 = .ok (.aload_n 1, 1) := by decide +kernel
theorem dX1_become_16 : decode cX1_become 16 = .ok (.getfield 15, 3) := by decide +kernel
theorem dX1_become_19 : decode cX1_become 19 = .ok (.iconst 0, 1) := by decide +kernel
theorem dX1_become_20 : decode cX1_become 20 = .ok (.aload_n 0, 1) := by decide +kernel
theorem dX1_become_21 : decode cX1_become 21 = .ok (.getfield 15, 3) := by decide +kernel
theorem dX1_become_24 : decode cX1_become 24 = .ok (.iconst 0, 1) := by decide +kernel
theorem dX1_become_25 : decode cX1_become 25 = .ok (.bipush 12, 2) := by decide +kernel
theorem dX1_become_27 : decode cX1_become 27 = .ok (.invokestatic 30, 3) := by decide +kernel
theorem dX1_become_30 : decode cX1_become 30 = .ok (.aload_n 1, 1) := by decide +kernel
theorem dX1_become_31 : decode cX1_become 31 = .ok (.getfield 18, 3) := by decide +kernel
theorem dX1_become_34 : decode cX1_become 34 = .ok (.iconst 0, 1) := by decide +kernel
theorem dX1_become_35 : decode cX1_become 35 = .ok (.aload_n 0, 1) := by decide +kernel
theorem dX1_become_36 : decode cX1_become 36 = .ok (.getfield 18, 3) := by decide +kernel
theorem dX1_become_39 : decode cX1_become 39 = .ok (.iconst 0, 1) := by decide +kernel
theorem dX1_become_40 : decode cX1_become 40 = .ok (.bipush 12, 2) := by decide +kernel
theorem dX1_become_42 : decode cX1_become 42 = .ok (.invokestatic 30, 3) := by decide +kernel
theorem dX1_become_45 : decode cX1_become 45 = .ok (.aload_n 1, 1) := by decide +kernel
theorem dX1_become_46 : decode cX1_become 46 = .ok (.getfield 21, 3) := by decide +kernel
theorem dX1_become_49 : decode cX1_become 49 = .ok (.iconst 0, 1) := by decide +kernel
theorem dX1_become_50 : decode cX1_become 50 = .ok (.aload_n 0, 1) := by decide +kernel
theorem dX1_become_51 : decode cX1_become 51 = .ok (.getfield 21, 3) := by decide +kernel
theorem dX1_become_54 : decode cX1_become 54 = .ok (.iconst 0, 1) := by decide +kernel
theorem dX1_become_55 : decode cX1_become 55 = .ok (.sipush 400, 3) := by decide +kernel
theorem dX1_become_58 : decode cX1_become 58 = .ok (.invokestatic 30, 3) := by decide +kernel
theorem dX1_become_61 : decode cX1_become 61 = .ok (.aload_n 0, 1) := by decide +kernel
theorem dX1_become_62 : decode cX1_become 62 = .ok (.aload_n 1, 1) := by decide +kernel
theorem dX1_become_63 : decode cX1_become 63 = .ok (.getfield 36, 3) := by decide +kernel
theorem dX1_become_66 : decode cX1_become 66 = .ok (.putfield 36, 3) := by decide +kernel
theorem dX1_become_69 : decode cX1_become 69 = .ok (.aload_n 0, 1) := by decide +kernel
theorem dX1_become_70 : decode cX1_become 70 = .ok (.aload_n 1, 1) := by decide +kernel
theorem dX1_become_71 : decode cX1_become 71 = .ok (.getfield 40, 3) := by decide +kernel
theorem dX1_become_74 : decode cX1_become 74 = .ok (.putfield 40, 3) := by decide +kernel
theorem dX1_become_77 : decode cX1_become 77 = .ok (.aload_n 0, 1) := by decide +kernel
theorem dX1_become_78 : decode cX1_become 78 = .ok (.aload_n 1, 1) := by decide +kernel
theorem dX1_become_79 : decode cX1_become 79 = .ok (.getfield 43, 3) := by decide +kernel
theorem dX1_become_82 : decode cX1_become 82 = .ok (.putfield 43, 3) := by decide +kernel
theorem dX1_become_85 : decode cX1_become 85 = .ok (.return_, 1) := by decide +kernel
theorem lf_RX1_9 : gLf RX1 9 1 0 := ⟨(RX1, TX1, 9), rfl, by decide, wA_t (wt2 (List.mem_of_getElem? (i := 93) (by decide +kernel))) (by decide +kernel), rfl⟩
theorem lac_RX1_30 : Cond.methodLink RX1 30 arraycopyName ∈ wA := wA_t (wt3 (List.mem_of_getElem? (i := 127) (by decide +kernel))) (by decide +kernel)
theorem lf_RX1_15 : gLf RX1 15 1 1 := ⟨(RX1, TX1, 9), rfl, by decide, wA_t (wt2 (List.mem_of_getElem? (i := 94) (by decide +kernel))) (by decide +kernel), rfl⟩
theorem lf_RX1_18 : gLf RX1 18 1 2 := ⟨(RX1, TX1, 9), rfl, by decide, wA_t (wt2 (List.mem_of_getElem? (i := 95) (by decide +kernel))) (by decide +kernel), rfl⟩
theorem lf_RX1_21 : gLf RX1 21 1 3 := ⟨(RX1, TX1, 9), rfl, by decide, wA_t (wt2 (List.mem_of_getElem? (i := 96) (by decide +kernel))) (by decide +kernel), rfl⟩
theorem lf_RX1_36 : gLf RX1 36 1 6 := ⟨(RX1, TX1, 9), rfl, by decide, wA_t (wt2 (List.mem_of_getElem? (i := 99) (by decide +kernel))) (by decide +kernel), rfl⟩
theorem lp_RX1_36 : gLp RX1 36 1 6 := ⟨(RX1, TX1, 9), rfl, by decide, wA_t (wt2 (List.mem_of_getElem? (i := 99) (by decide +kernel))) (by decide +kernel), rfl, rfl⟩
theorem lf_RX1_40 : gLf RX1 40 1 7 := ⟨(RX1, TX1, 9), rfl, by decide, wA_t (wt2 (List.mem_of_getElem? (i := 101) (by decide +kernel))) (by decide +kernel), rfl⟩
theorem lp_RX1_40 : gLp RX1 40 1 7 := ⟨(RX1, TX1, 9), rfl, by decide, wA_t (wt2 (List.mem_of_getElem? (i := 101) (by decide +kernel))) (by decide +kernel), rfl, rfl⟩
theorem lf_RX1_43 : gLf RX1 43 1 8 := ⟨(RX1, TX1, 9), rfl, by decide, wA_t (wt2 (List.mem_of_getElem? (i := 102) (by decide +kernel))) (by decide +kernel), rfl⟩
theorem lp_RX1_43 : gLp RX1 43 1 8 := ⟨(RX1, TX1, 9), rfl, by decide, wA_t (wt2 (List.mem_of_getElem? (i := 102) (by decide +kernel))) (by decide +kernel), rfl, rfl⟩
def rm_X1_become : Room := { frames := 1, cells := 0, slots := 0, locals := 40 }
def f_X1_become (τ : gτ) (x0 : Nat) (x1 : Nat) (G : gG) : Option (gG) :=
  (gr G 1 0 x1).bind fun a1 =>
  (gr G 1 0 x0).bind fun a2 =>
  gchk (¬ (0 : Int32) < 0 ∧ ¬ (0 : Int32) < 0 ∧ ¬ ((12 : Int32) : Int32) < 0 ∧ Int32.toNatClampNeg (0 : Int32) + Int32.toNatClampNeg (12 : Int32) ≤ gn τ a1 ∧ Int32.toNatClampNeg (0 : Int32) + Int32.toNatClampNeg (12 : Int32) ≤ gn τ a2) <| gLet (gsw G a2 (va_cpy (ge G a1) (ge G a2) (Int32.toNatClampNeg (0 : Int32)) (Int32.toNatClampNeg (0 : Int32)) (Int32.toNatClampNeg (12 : Int32)))) fun G3 =>
  (gr G3 1 1 x1).bind fun a4 =>
  (gr G3 1 1 x0).bind fun a5 =>
  gchk (¬ (0 : Int32) < 0 ∧ ¬ (0 : Int32) < 0 ∧ ¬ ((12 : Int32) : Int32) < 0 ∧ Int32.toNatClampNeg (0 : Int32) + Int32.toNatClampNeg (12 : Int32) ≤ gn τ a4 ∧ Int32.toNatClampNeg (0 : Int32) + Int32.toNatClampNeg (12 : Int32) ≤ gn τ a5) <| gLet (gsw G3 a5 (va_cpy (ge G3 a4) (ge G3 a5) (Int32.toNatClampNeg (0 : Int32)) (Int32.toNatClampNeg (0 : Int32)) (Int32.toNatClampNeg (12 : Int32)))) fun G6 =>
  (gr G6 1 2 x1).bind fun a7 =>
  (gr G6 1 2 x0).bind fun a8 =>
  gchk (¬ (0 : Int32) < 0 ∧ ¬ (0 : Int32) < 0 ∧ ¬ ((12 : Int32) : Int32) < 0 ∧ Int32.toNatClampNeg (0 : Int32) + Int32.toNatClampNeg (12 : Int32) ≤ gn τ a7 ∧ Int32.toNatClampNeg (0 : Int32) + Int32.toNatClampNeg (12 : Int32) ≤ gn τ a8) <| gLet (gsw G6 a8 (va_cpy (ge G6 a7) (ge G6 a8) (Int32.toNatClampNeg (0 : Int32)) (Int32.toNatClampNeg (0 : Int32)) (Int32.toNatClampNeg (12 : Int32)))) fun G9 =>
  (gr G9 1 3 x1).bind fun a10 =>
  (gr G9 1 3 x0).bind fun a11 =>
  gchk (¬ (0 : Int32) < 0 ∧ ¬ (0 : Int32) < 0 ∧ ¬ ((400 : Int32) : Int32) < 0 ∧ Int32.toNatClampNeg (0 : Int32) + Int32.toNatClampNeg (400 : Int32) ≤ gn τ a10 ∧ Int32.toNatClampNeg (0 : Int32) + Int32.toNatClampNeg (400 : Int32) ≤ gn τ a11) <| gLet (gsw G9 a11 (va_cpy (ge G9 a10) (ge G9 a11) (Int32.toNatClampNeg (0 : Int32)) (Int32.toNatClampNeg (0 : Int32)) (Int32.toNatClampNeg (400 : Int32)))) fun G12 =>
  gLet (gsi G12 1 6 x0 (gi G12 1 6 x1)) fun G13 =>
  gLet (gsi G13 1 7 x0 (gi G13 1 7 x1)) fun G14 =>
  gchk ((gi G14 1 8 x1) = 0 ∨ (gi G14 1 8 x1) = 1) <|
  gLet (gsi G14 1 8 x0 (gi G14 1 8 x1)) fun G15 =>
  some G15
set_option maxHeartbeats 4000000 in
set_option maxRecDepth 100000 in
theorem c_X1_become (l : Launch) (X : gX) (τ : gτ) (x0 : Nat) (x1 : Nat) (G : gG) (h0 : gK τ x0 1) (h1 : gK τ x1 1) {G' : gG} (h : f_X1_become τ x0 x1 G = some G') : gM l X τ yX1_become cX1_become 2 none rm_X1_become [.ref x0, .ref x1] G none G' := by
  refine g_body (by decide +kernel) (Nat.le_of_ble_eq_true rfl) ?_
  intro p e s m args below meth c ls fx hr hw hl
  have fx : gFx X p s m args meth c cX1_become 2 RX1 := fx
  have hl : lv_has ls 2 [(0, .ref x0), (1, .ref x1)] := hl
  have hok : gOk (f_X1_become τ x0 x1 G) (fun q => q = G') := ⟨_, h, rfl⟩
  unfold f_X1_become at hok
  show W p l e rm_X1_become s m args below meth c s.heap [] 0 0 (MQ below (gQ X τ none G') args s 0 0 (gFree X)) _
  refine lv_aload_n fx.1 fx.2.1 dX1_become_0 rfl (lv_at hl 1 rfl) ?_
  refine g_getr fx hw h1 lf_RX1_9 rfl dX1_become_1 hok (fun a1 h_a1 hok => ?_)
  refine lv_iconst (v := 0) fx.1 fx.2.1 dX1_become_4 (by decide) ?_
  refine lv_aload_n fx.1 fx.2.1 dX1_become_5 rfl (lv_at hl 0 rfl) ?_
  refine g_getr fx hw h0 lf_RX1_9 rfl dX1_become_6 hok (fun a2 h_a2 hok => ?_)
  refine lv_iconst (v := 0) fx.1 fx.2.1 dX1_become_9 (by decide) ?_
  refine lv_bipush (v := 12) fx.1 fx.2.1 dX1_become_10 (by decide) ?_
  refine g_copy fx hl.1 hw lac_RX1_30 lac_nat lac_st lac_in h_a1 h_a2 ⟨Nat.le_of_ble_eq_true rfl, Nat.le_of_ble_eq_true rfl⟩ dX1_become_12 hok (fun G3 H locs hw hok => ?_)
  refine lv_aload_n fx.1 fx.2.1 dX1_become_15 rfl (lv_at hl 1 rfl) ?_
  refine g_getr fx hw h1 lf_RX1_15 rfl dX1_become_16 hok (fun a4 h_a4 hok => ?_)
  refine lv_iconst (v := 0) fx.1 fx.2.1 dX1_become_19 (by decide) ?_
  refine lv_aload_n fx.1 fx.2.1 dX1_become_20 rfl (lv_at hl 0 rfl) ?_
  refine g_getr fx hw h0 lf_RX1_15 rfl dX1_become_21 hok (fun a5 h_a5 hok => ?_)
  refine lv_iconst (v := 0) fx.1 fx.2.1 dX1_become_24 (by decide) ?_
  refine lv_bipush (v := 12) fx.1 fx.2.1 dX1_become_25 (by decide) ?_
  refine g_copy fx hl.1 hw lac_RX1_30 lac_nat lac_st lac_in h_a4 h_a5 ⟨Nat.le_of_ble_eq_true rfl, Nat.le_of_ble_eq_true rfl⟩ dX1_become_27 hok (fun G6 H locs hw hok => ?_)
  refine lv_aload_n fx.1 fx.2.1 dX1_become_30 rfl (lv_at hl 1 rfl) ?_
  refine g_getr fx hw h1 lf_RX1_18 rfl dX1_become_31 hok (fun a7 h_a7 hok => ?_)
  refine lv_iconst (v := 0) fx.1 fx.2.1 dX1_become_34 (by decide) ?_
  refine lv_aload_n fx.1 fx.2.1 dX1_become_35 rfl (lv_at hl 0 rfl) ?_
  refine g_getr fx hw h0 lf_RX1_18 rfl dX1_become_36 hok (fun a8 h_a8 hok => ?_)
  refine lv_iconst (v := 0) fx.1 fx.2.1 dX1_become_39 (by decide) ?_
  refine lv_bipush (v := 12) fx.1 fx.2.1 dX1_become_40 (by decide) ?_
  refine g_copy fx hl.1 hw lac_RX1_30 lac_nat lac_st lac_in h_a7 h_a8 ⟨Nat.le_of_ble_eq_true rfl, Nat.le_of_ble_eq_true rfl⟩ dX1_become_42 hok (fun G9 H locs hw hok => ?_)
  refine lv_aload_n fx.1 fx.2.1 dX1_become_45 rfl (lv_at hl 1 rfl) ?_
  refine g_getr fx hw h1 lf_RX1_21 rfl dX1_become_46 hok (fun a10 h_a10 hok => ?_)
  refine lv_iconst (v := 0) fx.1 fx.2.1 dX1_become_49 (by decide) ?_
  refine lv_aload_n fx.1 fx.2.1 dX1_become_50 rfl (lv_at hl 0 rfl) ?_
  refine g_getr fx hw h0 lf_RX1_21 rfl dX1_become_51 hok (fun a11 h_a11 hok => ?_)
  refine lv_iconst (v := 0) fx.1 fx.2.1 dX1_become_54 (by decide) ?_
  refine lv_sipush (v := 400) fx.1 fx.2.1 dX1_become_55 (by decide) ?_
  refine g_copy fx hl.1 hw lac_RX1_30 lac_nat lac_st lac_in h_a10 h_a11 ⟨Nat.le_of_ble_eq_true rfl, Nat.le_of_ble_eq_true rfl⟩ dX1_become_58 hok (fun G12 H locs hw hok => ?_)
  refine lv_aload_n fx.1 fx.2.1 dX1_become_61 rfl (lv_at hl 0 rfl) ?_
  refine lv_aload_n fx.1 fx.2.1 dX1_become_62 rfl (lv_at hl 1 rfl) ?_
  refine g_geti fx hw h1 lf_RX1_36 rfl dX1_become_63 ?_
  refine g_puti fx hw h0 lp_RX1_36 rfl rfl dX1_become_66 hok (fun G13 H locs hw hok => ?_)
  refine lv_aload_n fx.1 fx.2.1 dX1_become_69 rfl (lv_at hl 0 rfl) ?_
  refine lv_aload_n fx.1 fx.2.1 dX1_become_70 rfl (lv_at hl 1 rfl) ?_
  refine g_geti fx hw h1 lf_RX1_40 rfl dX1_become_71 ?_
  refine g_puti fx hw h0 lp_RX1_40 rfl rfl dX1_become_74 hok (fun G14 H locs hw hok => ?_)
  refine lv_aload_n fx.1 fx.2.1 dX1_become_77 rfl (lv_at hl 0 rfl) ?_
  refine lv_aload_n fx.1 fx.2.1 dX1_become_78 rfl (lv_at hl 1 rfl) ?_
  refine g_geti fx hw h1 lf_RX1_43 rfl dX1_become_79 ?_
  obtain ⟨hz, hok⟩ := gOk_chk hok
  refine g_putz fx hw h0 lp_RX1_43 rfl rfl hz dX1_become_82 hok (fun G15 H locs hw hok => ?_)
  cases gOk_some hok
  exact g_vret fx hw hr dX1_become_85
theorem dX1_beginText_0 : decode cX1_beginText 0 = .ok (.aload_n 0, 1) := by decide +kernel
theorem dX1_beginText_1 : decode cX1_beginText 1 = .ok (.iconst 0, 1) := by decide +kernel
theorem dX1_beginText_2 : decode cX1_beginText 2 = .ok (.putfield 36, 3) := by decide +kernel
theorem dX1_beginText_5 : decode cX1_beginText 5 = .ok (.aload_n 0, 1) := by decide +kernel
theorem dX1_beginText_6 : decode cX1_beginText 6 = .ok (.iconst 0, 1) := by decide +kernel
theorem dX1_beginText_7 : decode cX1_beginText 7 = .ok (.putfield 40, 3) := by decide +kernel
theorem dX1_beginText_10 : decode cX1_beginText 10 = .ok (.aload_n 0, 1) := by decide +kernel
theorem dX1_beginText_11 : decode cX1_beginText 11 = .ok (.iconst 1, 1) := by decide +kernel
theorem dX1_beginText_12 : decode cX1_beginText 12 = .ok (.putfield 43, 3) := by decide +kernel
theorem dX1_beginText_15 : decode cX1_beginText 15 = .ok (.return_, 1) := by decide +kernel
def rm_X1_beginText : Room := { frames := 0, cells := 0, slots := 0, locals := 0 }
def f_X1_beginText (x0 : Nat) (G : gG) : Option (gG) :=
  gLet (gsi G 1 6 x0 (0 : Int32)) fun G1 =>
  gLet (gsi G1 1 7 x0 (0 : Int32)) fun G2 =>
  gLet (gsi G2 1 8 x0 (1 : Int32)) fun G3 =>
  some G3
set_option maxHeartbeats 4000000 in
set_option maxRecDepth 100000 in
theorem c_X1_beginText (l : Launch) (X : gX) (τ : gτ) (x0 : Nat) (G : gG) (h0 : gK τ x0 1) {G' : gG} (h : f_X1_beginText x0 G = some G') : gM l X τ yX1_beginText cX1_beginText 1 none rm_X1_beginText [.ref x0] G none G' := by
  refine g_body (by decide +kernel) (Nat.le_of_ble_eq_true rfl) ?_
  intro p e s m args below meth c ls fx hr hw hl
  have fx : gFx X p s m args meth c cX1_beginText 1 RX1 := fx
  have hl : lv_has ls 1 [(0, .ref x0)] := hl
  have hok : gOk (f_X1_beginText x0 G) (fun q => q = G') := ⟨_, h, rfl⟩
  unfold f_X1_beginText at hok
  show W p l e rm_X1_beginText s m args below meth c s.heap [] 0 0 (MQ below (gQ X τ none G') args s 0 0 (gFree X)) _
  refine lv_aload_n fx.1 fx.2.1 dX1_beginText_0 rfl (lv_at hl 0 rfl) ?_
  refine lv_iconst (v := 0) fx.1 fx.2.1 dX1_beginText_1 (by decide) ?_
  refine g_puti fx hw h0 lp_RX1_36 rfl rfl dX1_beginText_2 hok (fun G1 H locs hw hok => ?_)
  refine lv_aload_n fx.1 fx.2.1 dX1_beginText_5 rfl (lv_at hl 0 rfl) ?_
  refine lv_iconst (v := 0) fx.1 fx.2.1 dX1_beginText_6 (by decide) ?_
  refine g_puti fx hw h0 lp_RX1_40 rfl rfl dX1_beginText_7 hok (fun G2 H locs hw hok => ?_)
  refine lv_aload_n fx.1 fx.2.1 dX1_beginText_10 rfl (lv_at hl 0 rfl) ?_
  refine lv_iconst (v := 1) fx.1 fx.2.1 dX1_beginText_11 (by decide) ?_
  refine g_putz fx hw h0 lp_RX1_43 rfl rfl (by decide) dX1_beginText_12 hok (fun G3 H locs hw hok => ?_)
  cases gOk_some hok
  exact g_vret fx hw hr dX1_beginText_15
theorem dX1_emit_0 : decode cX1_emit 0 = .ok (.aload_n 0, 1) := by decide +kernel
theorem dX1_emit_1 : decode cX1_emit 1 = .ok (.getfield 40, 3) := by decide +kernel
theorem dX1_emit_4 : decode cX1_emit 4 = .ok (.sipush 400, 3) := by decide +kernel
theorem dX1_emit_7 : decode cX1_emit 7 = .ok (.if_icmp .ge 23, 3) := by decide +kernel
theorem dX1_emit_10 : decode cX1_emit 10 = .ok (.aload_n 0, 1) := by decide +kernel
theorem dX1_emit_11 : decode cX1_emit 11 = .ok (.getfield 21, 3) := by decide +kernel
theorem dX1_emit_14 : decode cX1_emit 14 = .ok (.aload_n 0, 1) := by decide +kernel
theorem dX1_emit_15 : decode cX1_emit 15 = .ok (.getfield 40, 3) := by decide +kernel
theorem dX1_emit_18 : decode cX1_emit 18 = .ok (.iload_n 1, 1) := by decide +kernel
theorem dX1_emit_19 : decode cX1_emit 19 = .ok (.iastore, 1) := by decide +kernel
theorem dX1_emit_20 : decode cX1_emit 20 = .ok (.aload_n 0, 1) := by decide +kernel
theorem dX1_emit_21 : decode cX1_emit 21 = .ok (.dup, 1) := by decide +kernel
theorem dX1_emit_22 : decode cX1_emit 22 = .ok (.getfield 40, 3) := by decide +kernel
theorem dX1_emit_25 : decode cX1_emit 25 = .ok (.iconst 1, 1) := by decide +kernel
theorem dX1_emit_26 : decode cX1_emit 26 = .ok (.iadd, 1) := by decide +kernel
theorem dX1_emit_27 : decode cX1_emit 27 = .ok (.putfield 40, 3) := by decide +kernel
theorem dX1_emit_30 : decode cX1_emit 30 = .ok (.return_, 1) := by decide +kernel
def rm_X1_emit : Room := { frames := 0, cells := 0, slots := 0, locals := 0 }
def f_X1_emit (τ : gτ) (x0 : Nat) (x1 : Int32) (G : gG) : Option (gG) :=
  if (400 : Int32) ≤ (gi G 1 7 x0) then (some G)
  else ((gr G 1 3 x0).bind fun a1 =>
  gchk (gIn (gi G 1 7 x0) (gn τ a1)) <| gLet (gse G a1 (Int32.toNatClampNeg (gi G 1 7 x0)) x1) fun G2 =>
  gLet (gsi G2 1 7 x0 ((gi G2 1 7 x0) + (1 : Int32))) fun G3 =>
  some G3)
set_option maxHeartbeats 4000000 in
set_option maxRecDepth 100000 in
theorem c_X1_emit (l : Launch) (X : gX) (τ : gτ) (x0 : Nat) (x1 : Int32) (G : gG) (h0 : gK τ x0 1) {G' : gG} (h : f_X1_emit τ x0 x1 G = some G') : gM l X τ yX1_emit cX1_emit 2 none rm_X1_emit [.ref x0, .int x1] G none G' := by
  refine g_body (by decide +kernel) (Nat.le_of_ble_eq_true rfl) ?_
  intro p e s m args below meth c ls fx hr hw hl
  have fx : gFx X p s m args meth c cX1_emit 2 RX1 := fx
  have hl : lv_has ls 2 [(0, .ref x0), (1, .int x1)] := hl
  have hok : gOk (f_X1_emit τ x0 x1 G) (fun q => q = G') := ⟨_, h, rfl⟩
  unfold f_X1_emit at hok
  show W p l e rm_X1_emit s m args below meth c s.heap [] 0 0 (MQ below (gQ X τ none G') args s 0 0 (gFree X)) _
  refine lv_aload_n fx.1 fx.2.1 dX1_emit_0 rfl (lv_at hl 0 rfl) ?_
  refine g_geti fx hw h0 lf_RX1_40 rfl dX1_emit_1 ?_
  refine lv_sipush (v := 400) fx.1 fx.2.1 dX1_emit_4 (by decide) ?_
  refine g_icmp_ge (tgt := 30) fx dX1_emit_7 (by decide) hok (fun hok => ?_) (fun hok => ?_)
  · cases gOk_some hok
    exact g_vret fx hw hr dX1_emit_30
  · refine lv_aload_n fx.1 fx.2.1 dX1_emit_10 rfl (lv_at hl 0 rfl) ?_
    refine g_getr fx hw h0 lf_RX1_21 rfl dX1_emit_11 hok (fun a1 h_a1 hok => ?_)
    refine lv_aload_n fx.1 fx.2.1 dX1_emit_14 rfl (lv_at hl 0 rfl) ?_
    refine g_geti fx hw h0 lf_RX1_40 rfl dX1_emit_15 ?_
    refine lv_iload_n fx.1 fx.2.1 dX1_emit_18 rfl (lv_at hl 1 rfl) ?_
    refine g_iast fx hw h_a1 dX1_emit_19 hok (fun G2 H locs hw hok => ?_)
    refine lv_aload_n fx.1 fx.2.1 dX1_emit_20 rfl (lv_at hl 0 rfl) ?_
    refine lv_dup fx.1 fx.2.1 dX1_emit_21 rfl ?_
    refine g_geti fx hw h0 lf_RX1_40 rfl dX1_emit_22 ?_
    refine lv_iconst (v := 1) fx.1 fx.2.1 dX1_emit_25 (by decide) ?_
    refine lv_iadd fx.1 fx.2.1 dX1_emit_26 ?_
    refine g_puti fx hw h0 lp_RX1_40 rfl rfl dX1_emit_27 hok (fun G3 H locs hw hok => ?_)
    cases gOk_some hok
    exact g_vret fx hw hr dX1_emit_30
theorem dX1_addLine_0 : decode cX1_addLine 0 = .ok (.aload_n 0, 1) := by decide +kernel
theorem dX1_addLine_1 : decode cX1_addLine 1 = .ok (.getfield 36, 3) := by decide +kernel
theorem dX1_addLine_4 : decode cX1_addLine 4 = .ok (.bipush 12, 2) := by decide +kernel
theorem dX1_addLine_6 : decode cX1_addLine 6 = .ok (.if_icmp .ge 46, 3) := by decide +kernel
theorem dX1_addLine_9 : decode cX1_addLine 9 = .ok (.aload_n 0, 1) := by decide +kernel
theorem dX1_addLine_10 : decode cX1_addLine 10 = .ok (.getfield 9, 3) := by decide +kernel
theorem dX1_addLine_13 : decode cX1_addLine 13 = .ok (.aload_n 0, 1) := by decide +kernel
theorem dX1_addLine_14 : decode cX1_addLine 14 = .ok (.getfield 36, 3) := by decide +kernel
theorem dX1_addLine_17 : decode cX1_addLine 17 = .ok (.iload_n 1, 1) := by decide +kernel
theorem dX1_addLine_18 : decode cX1_addLine 18 = .ok (.iastore, 1) := by decide +kernel
theorem dX1_addLine_19 : decode cX1_addLine 19 = .ok (.aload_n 0, 1) := by decide +kernel
theorem dX1_addLine_20 : decode cX1_addLine 20 = .ok (.getfield 15, 3) := by decide +kernel
theorem dX1_addLine_23 : decode cX1_addLine 23 = .ok (.aload_n 0, 1) := by decide +kernel
theorem dX1_addLine_24 : decode cX1_addLine 24 = .ok (.getfield 36, 3) := by decide +kernel
theorem dX1_addLine_27 : decode cX1_addLine 27 = .ok (.iload_n 2, 1) := by decide +kernel
theorem dX1_addLine_28 : decode cX1_addLine 28 = .ok (.iastore, 1) := by decide +kernel
theorem dX1_addLine_29 : decode cX1_addLine 29 = .ok (.aload_n 0, 1) := by decide +kernel
theorem dX1_addLine_30 : decode cX1_addLine 30 = .ok (.getfield 18, 3) := by decide +kernel
theorem dX1_addLine_33 : decode cX1_addLine 33 = .ok (.aload_n 0, 1) := by decide +kernel
theorem dX1_addLine_34 : decode cX1_addLine 34 = .ok (.getfield 36, 3) := by decide +kernel
theorem dX1_addLine_37 : decode cX1_addLine 37 = .ok (.aload_n 0, 1) := by decide +kernel
theorem dX1_addLine_38 : decode cX1_addLine 38 = .ok (.getfield 40, 3) := by decide +kernel
theorem dX1_addLine_41 : decode cX1_addLine 41 = .ok (.iastore, 1) := by decide +kernel
theorem dX1_addLine_42 : decode cX1_addLine 42 = .ok (.aload_n 0, 1) := by decide +kernel
theorem dX1_addLine_43 : decode cX1_addLine 43 = .ok (.dup, 1) := by decide +kernel
theorem dX1_addLine_44 : decode cX1_addLine 44 = .ok (.getfield 36, 3) := by decide +kernel
theorem dX1_addLine_47 : decode cX1_addLine 47 = .ok (.iconst 1, 1) := by decide +kernel
theorem dX1_addLine_48 : decode cX1_addLine 48 = .ok (.iadd, 1) := by decide +kernel
theorem dX1_addLine_49 : decode cX1_addLine 49 = .ok (.putfield 36, 3) := by decide +kernel
theorem dX1_addLine_52 : decode cX1_addLine 52 = .ok (.return_, 1) := by decide +kernel
def rm_X1_addLine : Room := { frames := 0, cells := 0, slots := 0, locals := 0 }
def f_X1_addLine (τ : gτ) (x0 : Nat) (x1 : Int32) (x2 : Int32) (G : gG) : Option (gG) :=
  if (12 : Int32) ≤ (gi G 1 6 x0) then (some G)
  else ((gr G 1 0 x0).bind fun a1 =>
  gchk (gIn (gi G 1 6 x0) (gn τ a1)) <| gLet (gse G a1 (Int32.toNatClampNeg (gi G 1 6 x0)) x1) fun G2 =>
  (gr G2 1 1 x0).bind fun a3 =>
  gchk (gIn (gi G2 1 6 x0) (gn τ a3)) <| gLet (gse G2 a3 (Int32.toNatClampNeg (gi G2 1 6 x0)) x2) fun G4 =>
  (gr G4 1 2 x0).bind fun a5 =>
  gchk (gIn (gi G4 1 6 x0) (gn τ a5)) <| gLet (gse G4 a5 (Int32.toNatClampNeg (gi G4 1 6 x0)) (gi G4 1 7 x0)) fun G6 =>
  gLet (gsi G6 1 6 x0 ((gi G6 1 6 x0) + (1 : Int32))) fun G7 =>
  some G7)
set_option maxHeartbeats 4000000 in
set_option maxRecDepth 100000 in
theorem c_X1_addLine (l : Launch) (X : gX) (τ : gτ) (x0 : Nat) (x1 : Int32) (x2 : Int32) (G : gG) (h0 : gK τ x0 1) {G' : gG} (h : f_X1_addLine τ x0 x1 x2 G = some G') : gM l X τ yX1_addLine cX1_addLine 3 none rm_X1_addLine [.ref x0, .int x1, .int x2] G none G' := by
  refine g_body (by decide +kernel) (Nat.le_of_ble_eq_true rfl) ?_
  intro p e s m args below meth c ls fx hr hw hl
  have fx : gFx X p s m args meth c cX1_addLine 3 RX1 := fx
  have hl : lv_has ls 3 [(0, .ref x0), (1, .int x1), (2, .int x2)] := hl
  have hok : gOk (f_X1_addLine τ x0 x1 x2 G) (fun q => q = G') := ⟨_, h, rfl⟩
  unfold f_X1_addLine at hok
  show W p l e rm_X1_addLine s m args below meth c s.heap [] 0 0 (MQ below (gQ X τ none G') args s 0 0 (gFree X)) _
  refine lv_aload_n fx.1 fx.2.1 dX1_addLine_0 rfl (lv_at hl 0 rfl) ?_
  refine g_geti fx hw h0 lf_RX1_36 rfl dX1_addLine_1 ?_
  refine lv_bipush (v := 12) fx.1 fx.2.1 dX1_addLine_4 (by decide) ?_
  refine g_icmp_ge (tgt := 52) fx dX1_addLine_6 (by decide) hok (fun hok => ?_) (fun hok => ?_)
  · cases gOk_some hok
    exact g_vret fx hw hr dX1_addLine_52
  · refine lv_aload_n fx.1 fx.2.1 dX1_addLine_9 rfl (lv_at hl 0 rfl) ?_
    refine g_getr fx hw h0 lf_RX1_9 rfl dX1_addLine_10 hok (fun a1 h_a1 hok => ?_)
    refine lv_aload_n fx.1 fx.2.1 dX1_addLine_13 rfl (lv_at hl 0 rfl) ?_
    refine g_geti fx hw h0 lf_RX1_36 rfl dX1_addLine_14 ?_
    refine lv_iload_n fx.1 fx.2.1 dX1_addLine_17 rfl (lv_at hl 1 rfl) ?_
    refine g_iast fx hw h_a1 dX1_addLine_18 hok (fun G2 H locs hw hok => ?_)
    refine lv_aload_n fx.1 fx.2.1 dX1_addLine_19 rfl (lv_at hl 0 rfl) ?_
    refine g_getr fx hw h0 lf_RX1_15 rfl dX1_addLine_20 hok (fun a3 h_a3 hok => ?_)
    refine lv_aload_n fx.1 fx.2.1 dX1_addLine_23 rfl (lv_at hl 0 rfl) ?_
    refine g_geti fx hw h0 lf_RX1_36 rfl dX1_addLine_24 ?_
    refine lv_iload_n fx.1 fx.2.1 dX1_addLine_27 rfl (lv_at hl 2 rfl) ?_
    refine g_iast fx hw h_a3 dX1_addLine_28 hok (fun G4 H locs hw hok => ?_)
    refine lv_aload_n fx.1 fx.2.1 dX1_addLine_29 rfl (lv_at hl 0 rfl) ?_
    refine g_getr fx hw h0 lf_RX1_18 rfl dX1_addLine_30 hok (fun a5 h_a5 hok => ?_)
    refine lv_aload_n fx.1 fx.2.1 dX1_addLine_33 rfl (lv_at hl 0 rfl) ?_
    refine g_geti fx hw h0 lf_RX1_36 rfl dX1_addLine_34 ?_
    refine lv_aload_n fx.1 fx.2.1 dX1_addLine_37 rfl (lv_at hl 0 rfl) ?_
    refine g_geti fx hw h0 lf_RX1_40 rfl dX1_addLine_38 ?_
    refine g_iast fx hw h_a5 dX1_addLine_41 hok (fun G6 H locs hw hok => ?_)
    refine lv_aload_n fx.1 fx.2.1 dX1_addLine_42 rfl (lv_at hl 0 rfl) ?_
    refine lv_dup fx.1 fx.2.1 dX1_addLine_43 rfl ?_
    refine g_geti fx hw h0 lf_RX1_36 rfl dX1_addLine_44 ?_
    refine lv_iconst (v := 1) fx.1 fx.2.1 dX1_addLine_47 (by decide) ?_
    refine lv_iadd fx.1 fx.2.1 dX1_addLine_48 ?_
    refine g_puti fx hw h0 lp_RX1_36 rfl rfl dX1_addLine_49 hok (fun G7 H locs hw hok => ?_)
    cases gOk_some hok
    exact g_vret fx hw hr dX1_addLine_52
theorem dX1_regard_0 : decode cX1_regard 0 = .ok (.aload_n 0, 1) := by decide +kernel
theorem dX1_regard_1 : decode cX1_regard 1 = .ok (.getfield 24, 3) := by decide +kernel
theorem dX1_regard_4 : decode cX1_regard 4 = .ok (.iconst 0, 1) := by decide +kernel
theorem dX1_regard_5 : decode cX1_regard 5 = .ok (.aload_n 2, 1) := by decide +kernel
theorem dX1_regard_6 : decode cX1_regard 6 = .ok (.getfield 47, 3) := by decide +kernel
theorem dX1_regard_9 : decode cX1_regard 9 = .ok (.aload_n 3, 1) := by decide +kernel
theorem dX1_regard_10 : decode cX1_regard 10 = .ok (.getfield 47, 3) := by decide +kernel
theorem dX1_regard_13 : decode cX1_regard 13 = .ok (.invokestatic 52, 3) := by decide +kernel
theorem dX1_regard_16 : decode cX1_regard 16 = .ok (.aload 4, 2) := by decide +kernel
theorem dX1_regard_18 : decode cX1_regard 18 = .ok (.getfield 47, 3) := by decide +kernel
theorem dX1_regard_21 : decode cX1_regard 21 = .ok (.invokestatic 52, 3) := by decide +kernel
theorem dX1_regard_24 : decode cX1_regard 24 = .ok (.iastore, 1) := by decide +kernel
theorem dX1_regard_25 : decode cX1_regard 25 = .ok (.aload_n 0, 1) := by decide +kernel
theorem dX1_regard_26 : decode cX1_regard 26 = .ok (.getfield 24, 3) := by decide +kernel
theorem dX1_regard_29 : decode cX1_regard 29 = .ok (.iconst 1, 1) := by decide +kernel
theorem dX1_regard_30 : decode cX1_regard 30 = .ok (.aload_n 2, 1) := by decide +kernel
theorem dX1_regard_31 : decode cX1_regard 31 = .ok (.getfield 47, 3) := by decide +kernel
theorem dX1_regard_34 : decode cX1_regard 34 = .ok (.aload_n 3, 1) := by decide +kernel
theorem dX1_regard_35 : decode cX1_regard 35 = .ok (.getfield 47, 3) := by decide +kernel
theorem dX1_regard_38 : decode cX1_regard 38 = .ok (.invokestatic 58, 3) := by decide +kernel
theorem dX1_regard_41 : decode cX1_regard 41 = .ok (.aload 4, 2) := by decide +kernel
theorem dX1_regard_43 : decode cX1_regard 43 = .ok (.getfield 47, 3) := by decide +kernel
theorem dX1_regard_46 : decode cX1_regard 46 = .ok (.invokestatic 58, 3) := by decide +kernel
theorem dX1_regard_49 : decode cX1_regard 49 = .ok (.iastore, 1) := by decide +kernel
theorem dX1_regard_50 : decode cX1_regard 50 = .ok (.aload_n 0, 1) := by decide +kernel
theorem dX1_regard_51 : decode cX1_regard 51 = .ok (.getfield 24, 3) := by decide +kernel
theorem dX1_regard_54 : decode cX1_regard 54 = .ok (.iconst 2, 1) := by decide +kernel
theorem dX1_regard_55 : decode cX1_regard 55 = .ok (.aload_n 2, 1) := by decide +kernel
theorem dX1_regard_56 : decode cX1_regard 56 = .ok (.getfield 61, 3) := by decide +kernel
theorem dX1_regard_59 : decode cX1_regard 59 = .ok (.aload_n 3, 1) := by decide +kernel
theorem dX1_regard_60 : decode cX1_regard 60 = .ok (.getfield 61, 3) := by decide +kernel
theorem dX1_regard_63 : decode cX1_regard 63 = .ok (.iadd, 1) := by decide +kernel
theorem dX1_regard_64 : decode cX1_regard 64 = .ok (.aload 4, 2) := by decide +kernel
theorem dX1_regard_66 : decode cX1_regard 66 = .ok (.getfield 61, 3) := by decide +kernel
theorem dX1_regard_69 : decode cX1_regard 69 = .ok (.iadd, 1) := by decide +kernel
theorem dX1_regard_70 : decode cX1_regard 70 = .ok (.iastore, 1) := by decide +kernel
theorem dX1_regard_71 : decode cX1_regard 71 = .ok (.aload_n 0, 1) := by decide +kernel
theorem dX1_regard_72 : decode cX1_regard 72 = .ok (.getfield 24, 3) := by decide +kernel
theorem dX1_regard_75 : decode cX1_regard 75 = .ok (.iconst 3, 1) := by decide +kernel
theorem dX1_regard_76 : decode cX1_regard 76 = .ok (.iconst 1, 1) := by decide +kernel
theorem dX1_regard_77 : decode cX1_regard 77 = .ok (.aload_n 2, 1) := by decide +kernel
theorem dX1_regard_78 : decode cX1_regard 78 = .ok (.getfield 64, 3) := by decide +kernel
theorem dX1_regard_81 : decode cX1_regard 81 = .ok (.ishl, 1) := by decide +kernel
theorem dX1_regard_82 : decode cX1_regard 82 = .ok (.iconst 1, 1) := by decide +kernel
theorem dX1_regard_83 : decode cX1_regard 83 = .ok (.aload_n 3, 1) := by decide +kernel
theorem dX1_regard_84 : decode cX1_regard 84 = .ok (.getfield 64, 3) := by decide +kernel
theorem dX1_regard_87 : decode cX1_regard 87 = .ok (.ishl, 1) := by decide +kernel
theorem dX1_regard_88 : decode cX1_regard 88 = .ok (.ior, 1) := by decide +kernel
theorem dX1_regard_89 : decode cX1_regard 89 = .ok (.iconst 1, 1) := by decide +kernel
theorem dX1_regard_90 : decode cX1_regard 90 = .ok (.aload 4, 2) := by decide +kernel
theorem dX1_regard_92 : decode cX1_regard 92 = .ok (.getfield 64, 3) := by decide +kernel
theorem dX1_regard_95 : decode cX1_regard 95 = .ok (.ishl, 1) := by decide +kernel
theorem dX1_regard_96 : decode cX1_regard 96 = .ok (.ior, 1) := by decide +kernel
theorem dX1_regard_97 : decode cX1_regard 97 = .ok (.invokestatic 67, 3) := by decide +kernel
theorem dX1_regard_100 : decode cX1_regard 100 = .ok (.iastore, 1) := by decide +kernel
theorem dX1_regard_101 : decode cX1_regard 101 = .ok (.aload_n 0, 1) := by decide +kernel
theorem dX1_regard_102 : decode cX1_regard 102 = .ok (.getfield 24, 3) := by decide +kernel
theorem dX1_regard_105 : decode cX1_regard 105 = .ok (.iconst 4, 1) := by decide +kernel
theorem dX1_regard_106 : decode cX1_regard 106 = .ok (.aload_n 1, 1) := by decide +kernel
theorem dX1_regard_107 : decode cX1_regard 107 = .ok (.getfield 73, 3) := by decide +kernel
theorem dX1_regard_110 : decode cX1_regard 110 = .ok (.iastore, 1) := by decide +kernel
theorem dX1_regard_111 : decode cX1_regard 111 = .ok (.aload_n 0, 1) := by decide +kernel
theorem dX1_regard_112 : decode cX1_regard 112 = .ok (.getfield 24, 3) := by decide +kernel
theorem dX1_regard_115 : decode cX1_regard 115 = .ok (.iconst 5, 1) := by decide +kernel
theorem dX1_regard_116 : decode cX1_regard 116 = .ok (.aload_n 1, 1) := by decide +kernel
theorem dX1_regard_117 : decode cX1_regard 117 = .ok (.getfield 78, 3) := by decide +kernel
theorem dX1_regard_120 : decode cX1_regard 120 = .ok (.iastore, 1) := by decide +kernel
theorem dX1_regard_121 : decode cX1_regard 121 = .ok (.aload_n 0, 1) := by decide +kernel
theorem dX1_regard_122 : decode cX1_regard 122 = .ok (.getfield 24, 3) := by decide +kernel
theorem dX1_regard_125 : decode cX1_regard 125 = .ok (.bipush 6, 2) := by decide +kernel
theorem dX1_regard_127 : decode cX1_regard 127 = .ok (.aload_n 1, 1) := by decide +kernel
theorem dX1_regard_128 : decode cX1_regard 128 = .ok (.getfield 81, 3) := by decide +kernel
theorem dX1_regard_131 : decode cX1_regard 131 = .ok (.iastore, 1) := by decide +kernel
theorem dX1_regard_132 : decode cX1_regard 132 = .ok (.aload_n 0, 1) := by decide +kernel
theorem dX1_regard_133 : decode cX1_regard 133 = .ok (.getfield 24, 3) := by decide +kernel
theorem dX1_regard_136 : decode cX1_regard 136 = .ok (.bipush 7, 2) := by decide +kernel
theorem dX1_regard_138 : decode cX1_regard 138 = .ok (.aload_n 1, 1) := by decide +kernel
theorem dX1_regard_139 : decode cX1_regard 139 = .ok (.getfield 84, 3) := by decide +kernel
theorem dX1_regard_142 : decode cX1_regard 142 = .ok (.iastore, 1) := by decide +kernel
theorem dX1_regard_143 : decode cX1_regard 143 = .ok (.aload_n 0, 1) := by decide +kernel
theorem dX1_regard_144 : decode cX1_regard 144 = .ok (.getfield 24, 3) := by decide +kernel
theorem dX1_regard_147 : decode cX1_regard 147 = .ok (.bipush 8, 2) := by decide +kernel
theorem dX1_regard_149 : decode cX1_regard 149 = .ok (.aload_n 1, 1) := by decide +kernel
theorem dX1_regard_150 : decode cX1_regard 150 = .ok (.getfield 87, 3) := by decide +kernel
theorem dX1_regard_153 : decode cX1_regard 153 = .ok (.iastore, 1) := by decide +kernel
theorem dX1_regard_154 : decode cX1_regard 154 = .ok (.aload_n 0, 1) := by decide +kernel
theorem dX1_regard_155 : decode cX1_regard 155 = .ok (.getfield 24, 3) := by decide +kernel
theorem dX1_regard_158 : decode cX1_regard 158 = .ok (.bipush 9, 2) := by decide +kernel
theorem dX1_regard_160 : decode cX1_regard 160 = .ok (.aload_n 1, 1) := by decide +kernel
theorem dX1_regard_161 : decode cX1_regard 161 = .ok (.getfield 90, 3) := by decide +kernel
theorem dX1_regard_164 : decode cX1_regard 164 = .ok (.ifCond .eq 7, 3) := by decide +kernel
theorem dX1_regard_167 : decode cX1_regard 167 = .ok (.iconst 1, 1) := by decide +kernel
theorem dX1_regard_168 : decode cX1_regard 168 = .ok (.goto 4, 3) := by decide +kernel
theorem dX1_regard_171 : decode cX1_regard 171 = .ok (.iconst 0, 1) := by decide +kernel
theorem dX1_regard_172 : decode cX1_regard 172 = .ok (.iastore, 1) := by decide +kernel
theorem dX1_regard_173 : decode cX1_regard 173 = .ok (.aload_n 0, 1) := by decide +kernel
theorem dX1_regard_174 : decode cX1_regard 174 = .ok (.getfield 24, 3) := by decide +kernel
theorem dX1_regard_177 : decode cX1_regard 177 = .ok (.bipush 10, 2) := by decide +kernel
theorem dX1_regard_179 : decode cX1_regard 179 = .ok (.iload 5, 2) := by decide +kernel
theorem dX1_regard_181 : decode cX1_regard 181 = .ok (.ifCond .eq 7, 3) := by decide +kernel
theorem dX1_regard_184 : decode cX1_regard 184 = .ok (.iconst 1, 1) := by decide +kernel
theorem dX1_regard_185 : decode cX1_regard 185 = .ok (.goto 4, 3) := by decide +kernel
theorem dX1_regard_188 : decode cX1_regard 188 = .ok (.iconst 0, 1) := by decide +kernel
theorem dX1_regard_189 : decode cX1_regard 189 = .ok (.iastore, 1) := by decide +kernel
theorem dX1_regard_190 : decode cX1_regard 190 = .ok (.return_, 1) := by decide +kernel
theorem lf_RX1_24 : gLf RX1 24 1 4 := ⟨(RX1, TX1, 9), rfl, by decide, wA_t (wt2 (List.mem_of_getElem? (i := 97) (by decide +kernel))) (by decide +kernel), rfl⟩
theorem lf_RX1_47 : gLf RX1 47 9 0 := ⟨(RX9, TX9, 4), rfl, by decide, wA_t (wt1 (List.mem_of_getElem? (i := 135) (by decide +kernel))) (by decide +kernel), rfl⟩
theorem lm_RX1_52 : Cond.methodLink RX1 52 Lib.Math.min.name ∈ wA := wA_t (wt2 (List.mem_of_getElem? (i := 216) (by decide +kernel))) (by decide +kernel)
theorem lm_RX1_58 : Cond.methodLink RX1 58 Lib.Math.max.name ∈ wA := wA_t (wt2 (List.mem_of_getElem? (i := 219) (by decide +kernel))) (by decide +kernel)
theorem lmst_max : Cond.static Lib.Math.max.name ∈ wA := wA_t (wt2 (List.mem_of_getElem? (i := 220) (by decide +kernel))) (by decide +kernel)
theorem lmco_max : Cond.code Lib.Math.max.name Lib.Math.max.code 2 (some .int) ∈ wA := wA_t (wt2 (List.mem_of_getElem? (i := 221) (by decide +kernel))) (by decide +kernel)
theorem lf_RX1_61 : gLf RX1 61 9 2 := ⟨(RX9, TX9, 4), rfl, by decide, wA_t (wt1 (List.mem_of_getElem? (i := 142) (by decide +kernel))) (by decide +kernel), rfl⟩
theorem lf_RX1_64 : gLf RX1 64 9 3 := ⟨(RX9, TX9, 4), rfl, by decide, wA_t (wt1 (List.mem_of_getElem? (i := 146) (by decide +kernel))) (by decide +kernel), rfl⟩
theorem ls_RX1_67 : gLs RX1 67 yJ6_bitCount_0f7a4 cJ6_bitCount_0f7a4 1 (some .int) 1 := gLs_of (wA_t (wt2 (List.mem_of_getElem? (i := 222) (by decide +kernel))) (by decide +kernel)) (wA_t (wt2 (List.mem_of_getElem? (i := 223) (by decide +kernel))) (by decide +kernel)) (wA_t (wt1 (List.mem_of_getElem? (i := 26) (by decide +kernel))) (by decide +kernel)) (wA_t (wt2 (List.mem_of_getElem? (i := 224) (by decide +kernel))) (by decide +kernel)) ⟨by decide +kernel, by decide +kernel, by decide +kernel⟩
theorem lf_RX1_73 : gLf RX1 73 5 4 := ⟨(RX5, TX5, 10), rfl, by decide, wA_t (wt1 (List.mem_of_getElem? (i := 179) (by decide +kernel))) (by decide +kernel), rfl⟩
theorem lf_RX1_78 : gLf RX1 78 5 5 := ⟨(RX5, TX5, 10), rfl, by decide, wA_t (wt1 (List.mem_of_getElem? (i := 183) (by decide +kernel))) (by decide +kernel), rfl⟩
theorem lf_RX1_81 : gLf RX1 81 5 3 := ⟨(RX5, TX5, 10), rfl, by decide, wA_t (wt1 (List.mem_of_getElem? (i := 175) (by decide +kernel))) (by decide +kernel), rfl⟩
theorem lf_RX1_84 : gLf RX1 84 5 6 := ⟨(RX5, TX5, 10), rfl, by decide, wA_t (wt1 (List.mem_of_getElem? (i := 187) (by decide +kernel))) (by decide +kernel), rfl⟩
theorem lf_RX1_87 : gLf RX1 87 5 7 := ⟨(RX5, TX5, 10), rfl, by decide, wA_t (wt1 (List.mem_of_getElem? (i := 192) (by decide +kernel))) (by decide +kernel), rfl⟩
theorem lf_RX1_90 : gLf RX1 90 5 8 := ⟨(RX5, TX5, 10), rfl, by decide, wA_t (wt1 (List.mem_of_getElem? (i := 197) (by decide +kernel))) (by decide +kernel), rfl⟩
def rm_X1_regard : Room := { frames := 1, cells := 0, slots := 0, locals := 21 }
def k_X1_regard_189 (τ : gτ)  (s0 : Nat) (s1 : Int32) (s2 : Int32) (G : gG) : Option (gG) :=
  gchk (gIn s1 (gn τ s0)) <| gLet (gse G s0 (Int32.toNatClampNeg s1) s2) fun G23 =>
  some G23
def k_X1_regard_172 (τ : gτ) (x0 : Nat) (x5 : Int32) (s0 : Nat) (s1 : Int32) (s2 : Int32) (G : gG) : Option (gG) :=
  gchk (gIn s1 (gn τ s0)) <| gLet (gse G s0 (Int32.toNatClampNeg s1) s2) fun G21 =>
  (gr G21 1 4 x0).bind fun a22 =>
  if x5 = 0 then (k_X1_regard_189 τ  a22 (10 : Int32) (0 : Int32) G21)
  else (k_X1_regard_189 τ  a22 (10 : Int32) (1 : Int32) G21)
def f_X1_regard (τ : gτ) (x0 : Nat) (x1 : Nat) (x2 : Nat) (x3 : Nat) (x4 : Nat) (x5 : Int32) (G : gG) : Option (gG) :=
  (gr G 1 4 x0).bind fun a1 =>
  gchk (gIn (0 : Int32) (gn τ a1)) <| gLet (gse G a1 (Int32.toNatClampNeg (0 : Int32)) (gmin (gmin (gi G 9 0 x2) (gi G 9 0 x3)) (gi G 9 0 x4))) fun G2 =>
  (gr G2 1 4 x0).bind fun a3 =>
  gchk (gIn (1 : Int32) (gn τ a3)) <| gLet (gse G2 a3 (Int32.toNatClampNeg (1 : Int32)) (gmax (gmax (gi G2 9 0 x2) (gi G2 9 0 x3)) (gi G2 9 0 x4))) fun G4 =>
  (gr G4 1 4 x0).bind fun a5 =>
  gchk (gIn (2 : Int32) (gn τ a5)) <| gLet (gse G4 a5 (Int32.toNatClampNeg (2 : Int32)) (((gi G4 9 2 x2) + (gi G4 9 2 x3)) + (gi G4 9 2 x4))) fun G6 =>
  (gr G6 1 4 x0).bind fun a7 =>
  (f_J6_bitCount_0f7a4 ((((1 : Int32) <<< ((gi G6 9 3 x2) &&& 31)) ||| ((1 : Int32) <<< ((gi G6 9 3 x3) &&& 31))) ||| ((1 : Int32) <<< ((gi G6 9 3 x4) &&& 31)))).bind fun v8 =>
  gchk (gIn (3 : Int32) (gn τ a7)) <| gLet (gse G6 a7 (Int32.toNatClampNeg (3 : Int32)) v8) fun G9 =>
  (gr G9 1 4 x0).bind fun a10 =>
  gchk (gIn (4 : Int32) (gn τ a10)) <| gLet (gse G9 a10 (Int32.toNatClampNeg (4 : Int32)) (gi G9 5 4 x1)) fun G11 =>
  (gr G11 1 4 x0).bind fun a12 =>
  gchk (gIn (5 : Int32) (gn τ a12)) <| gLet (gse G11 a12 (Int32.toNatClampNeg (5 : Int32)) (gi G11 5 5 x1)) fun G13 =>
  (gr G13 1 4 x0).bind fun a14 =>
  gchk (gIn (6 : Int32) (gn τ a14)) <| gLet (gse G13 a14 (Int32.toNatClampNeg (6 : Int32)) (gi G13 5 3 x1)) fun G15 =>
  (gr G15 1 4 x0).bind fun a16 =>
  gchk (gIn (7 : Int32) (gn τ a16)) <| gLet (gse G15 a16 (Int32.toNatClampNeg (7 : Int32)) (gi G15 5 6 x1)) fun G17 =>
  (gr G17 1 4 x0).bind fun a18 =>
  gchk (gIn (8 : Int32) (gn τ a18)) <| gLet (gse G17 a18 (Int32.toNatClampNeg (8 : Int32)) (gi G17 5 7 x1)) fun G19 =>
  (gr G19 1 4 x0).bind fun a20 =>
  if (gi G19 5 8 x1) = 0 then (k_X1_regard_172 τ x0 x5 a20 (9 : Int32) (0 : Int32) G19)
  else (k_X1_regard_172 τ x0 x5 a20 (9 : Int32) (1 : Int32) G19)
set_option maxHeartbeats 4000000 in
set_option maxRecDepth 100000 in
theorem w_X1_regard_189 {X : gX} {τ : gτ} {p : Program} {l : Launch} {e : Env} {s : State} {m : MethodId} {args : Array Value} {below : List Frame} {meth : Method} {c : Code} (fx : gFx X p s m args meth c cX1_regard 6 RX1)  (s0 : Nat) (s1 : Int32) (s2 : Int32)  (hs0 : gK τ s0 13) (hr : meth.sig.returnType = none) {G' : gG} {G : gG} {H : Heap} {locs : List Loc} {ls : Array Slot} (hw : gHw X τ G H locs) (hl : lv_has ls 6 []) (hok : gOk (k_X1_regard_189 τ  s0 s1 s2 G) (fun q => q = G'))  : W p l e rm_X1_regard s m args below meth c H locs 0 0 (MQ below (gQ X τ none G') args s 0 0 (gFree X)) (F0 m 189 ls [.int s2, .int s1, .ref s0]) := by
  unfold k_X1_regard_189 at hok
  refine g_iast fx hw hs0 dX1_regard_189 hok (fun G23 H locs hw hok => ?_)
  cases gOk_some hok
  exact g_vret fx hw hr dX1_regard_190
set_option maxHeartbeats 4000000 in
set_option maxRecDepth 100000 in
theorem w_X1_regard_172 {X : gX} {τ : gτ} {p : Program} {l : Launch} {e : Env} {s : State} {m : MethodId} {args : Array Value} {below : List Frame} {meth : Method} {c : Code} (fx : gFx X p s m args meth c cX1_regard 6 RX1) (x0 : Nat) (x5 : Int32) (s0 : Nat) (s1 : Int32) (s2 : Int32) (h0 : gK τ x0 1) (hs0 : gK τ s0 13) (hr : meth.sig.returnType = none) {G' : gG} {G : gG} {H : Heap} {locs : List Loc} {ls : Array Slot} (hw : gHw X τ G H locs) (hl : lv_has ls 6 [(0, .ref x0), (5, .int x5)]) (hok : gOk (k_X1_regard_172 τ x0 x5 s0 s1 s2 G) (fun q => q = G'))  : W p l e rm_X1_regard s m args below meth c H locs 0 0 (MQ below (gQ X τ none G') args s 0 0 (gFree X)) (F0 m 172 ls [.int s2, .int s1, .ref s0]) := by
  unfold k_X1_regard_172 at hok
  refine g_iast fx hw hs0 dX1_regard_172 hok (fun G21 H locs hw hok => ?_)
  refine lv_aload_n fx.1 fx.2.1 dX1_regard_173 rfl (lv_at hl 0 rfl) ?_
  refine g_getr fx hw h0 lf_RX1_24 rfl dX1_regard_174 hok (fun a22 h_a22 hok => ?_)
  refine lv_bipush (v := 10) fx.1 fx.2.1 dX1_regard_177 (by decide) ?_
  refine lv_iload fx.1 fx.2.1 dX1_regard_179 (lv_at hl 1 rfl) ?_
  refine g_if_eq (tgt := 188) fx dX1_regard_181 (by decide) hok (fun hok => ?_) (fun hok => ?_)
  · refine lv_iconst (v := 0) fx.1 fx.2.1 dX1_regard_188 (by decide) ?_
    exact w_X1_regard_189 fx  a22 (10 : Int32) (0 : Int32)  h_a22 hr hw (lv_sub hl [] rfl) hok
  · refine lv_iconst (v := 1) fx.1 fx.2.1 dX1_regard_184 (by decide) ?_
    refine lv_goto (tgt := 189) fx.1 fx.2.1 dX1_regard_185 (by decide) ?_
    exact w_X1_regard_189 fx  a22 (10 : Int32) (1 : Int32)  h_a22 hr hw (lv_sub hl [] rfl) hok
set_option maxHeartbeats 4000000 in
set_option maxRecDepth 100000 in
theorem c_X1_regard (l : Launch) (X : gX) (τ : gτ) (x0 : Nat) (x1 : Nat) (x2 : Nat) (x3 : Nat) (x4 : Nat) (x5 : Int32) (G : gG) (h0 : gK τ x0 1) (h1 : gK τ x1 5) (h2 : gK τ x2 9) (h3 : gK τ x3 9) (h4 : gK τ x4 9) {G' : gG} (h : f_X1_regard τ x0 x1 x2 x3 x4 x5 G = some G') : gM l X τ yX1_regard cX1_regard 6 none rm_X1_regard [.ref x0, .ref x1, .ref x2, .ref x3, .ref x4, .int x5] G none G' := by
  refine g_body (by decide +kernel) (Nat.le_of_ble_eq_true rfl) ?_
  intro p e s m args below meth c ls fx hr hw hl
  have fx : gFx X p s m args meth c cX1_regard 6 RX1 := fx
  have hl : lv_has ls 6 [(0, .ref x0), (1, .ref x1), (2, .ref x2), (3, .ref x3), (4, .ref x4), (5, .int x5)] := hl
  have hok : gOk (f_X1_regard τ x0 x1 x2 x3 x4 x5 G) (fun q => q = G') := ⟨_, h, rfl⟩
  unfold f_X1_regard at hok
  show W p l e rm_X1_regard s m args below meth c s.heap [] 0 0 (MQ below (gQ X τ none G') args s 0 0 (gFree X)) _
  refine lv_aload_n fx.1 fx.2.1 dX1_regard_0 rfl (lv_at hl 0 rfl) ?_
  refine g_getr fx hw h0 lf_RX1_24 rfl dX1_regard_1 hok (fun a1 h_a1 hok => ?_)
  refine lv_iconst (v := 0) fx.1 fx.2.1 dX1_regard_4 (by decide) ?_
  refine lv_aload_n fx.1 fx.2.1 dX1_regard_5 rfl (lv_at hl 2 rfl) ?_
  refine g_geti fx hw h2 lf_RX1_47 rfl dX1_regard_6 ?_
  refine lv_aload_n fx.1 fx.2.1 dX1_regard_9 rfl (lv_at hl 3 rfl) ?_
  refine g_geti fx hw h3 lf_RX1_47 rfl dX1_regard_10 ?_
  refine g_mmin fx hl.1 lm_RX1_52 lmst_min lm_init lmco_min ⟨Nat.le_of_ble_eq_true rfl, Nat.le_of_ble_eq_true rfl, Nat.le_of_ble_eq_true rfl, Nat.le_of_ble_eq_true rfl⟩ dX1_regard_13 ?_
  refine lv_aload fx.1 fx.2.1 dX1_regard_16 (lv_at hl 4 rfl) ?_
  refine g_geti fx hw h4 lf_RX1_47 rfl dX1_regard_18 ?_
  refine g_mmin fx hl.1 lm_RX1_52 lmst_min lm_init lmco_min ⟨Nat.le_of_ble_eq_true rfl, Nat.le_of_ble_eq_true rfl, Nat.le_of_ble_eq_true rfl, Nat.le_of_ble_eq_true rfl⟩ dX1_regard_21 ?_
  refine g_iast fx hw h_a1 dX1_regard_24 hok (fun G2 H locs hw hok => ?_)
  refine lv_aload_n fx.1 fx.2.1 dX1_regard_25 rfl (lv_at hl 0 rfl) ?_
  refine g_getr fx hw h0 lf_RX1_24 rfl dX1_regard_26 hok (fun a3 h_a3 hok => ?_)
  refine lv_iconst (v := 1) fx.1 fx.2.1 dX1_regard_29 (by decide) ?_
  refine lv_aload_n fx.1 fx.2.1 dX1_regard_30 rfl (lv_at hl 2 rfl) ?_
  refine g_geti fx hw h2 lf_RX1_47 rfl dX1_regard_31 ?_
  refine lv_aload_n fx.1 fx.2.1 dX1_regard_34 rfl (lv_at hl 3 rfl) ?_
  refine g_geti fx hw h3 lf_RX1_47 rfl dX1_regard_35 ?_
  refine g_mmax fx hl.1 lm_RX1_58 lmst_max lm_init lmco_max ⟨Nat.le_of_ble_eq_true rfl, Nat.le_of_ble_eq_true rfl, Nat.le_of_ble_eq_true rfl, Nat.le_of_ble_eq_true rfl⟩ dX1_regard_38 ?_
  refine lv_aload fx.1 fx.2.1 dX1_regard_41 (lv_at hl 4 rfl) ?_
  refine g_geti fx hw h4 lf_RX1_47 rfl dX1_regard_43 ?_
  refine g_mmax fx hl.1 lm_RX1_58 lmst_max lm_init lmco_max ⟨Nat.le_of_ble_eq_true rfl, Nat.le_of_ble_eq_true rfl, Nat.le_of_ble_eq_true rfl, Nat.le_of_ble_eq_true rfl⟩ dX1_regard_46 ?_
  refine g_iast fx hw h_a3 dX1_regard_49 hok (fun G4 H locs hw hok => ?_)
  refine lv_aload_n fx.1 fx.2.1 dX1_regard_50 rfl (lv_at hl 0 rfl) ?_
  refine g_getr fx hw h0 lf_RX1_24 rfl dX1_regard_51 hok (fun a5 h_a5 hok => ?_)
  refine lv_iconst (v := 2) fx.1 fx.2.1 dX1_regard_54 (by decide) ?_
  refine lv_aload_n fx.1 fx.2.1 dX1_regard_55 rfl (lv_at hl 2 rfl) ?_
  refine g_geti fx hw h2 lf_RX1_61 rfl dX1_regard_56 ?_
  refine lv_aload_n fx.1 fx.2.1 dX1_regard_59 rfl (lv_at hl 3 rfl) ?_
  refine g_geti fx hw h3 lf_RX1_61 rfl dX1_regard_60 ?_
  refine lv_iadd fx.1 fx.2.1 dX1_regard_63 ?_
  refine lv_aload fx.1 fx.2.1 dX1_regard_64 (lv_at hl 4 rfl) ?_
  refine g_geti fx hw h4 lf_RX1_61 rfl dX1_regard_66 ?_
  refine lv_iadd fx.1 fx.2.1 dX1_regard_69 ?_
  refine g_iast fx hw h_a5 dX1_regard_70 hok (fun G6 H locs hw hok => ?_)
  refine lv_aload_n fx.1 fx.2.1 dX1_regard_71 rfl (lv_at hl 0 rfl) ?_
  refine g_getr fx hw h0 lf_RX1_24 rfl dX1_regard_72 hok (fun a7 h_a7 hok => ?_)
  refine lv_iconst (v := 3) fx.1 fx.2.1 dX1_regard_75 (by decide) ?_
  refine lv_iconst (v := 1) fx.1 fx.2.1 dX1_regard_76 (by decide) ?_
  refine lv_aload_n fx.1 fx.2.1 dX1_regard_77 rfl (lv_at hl 2 rfl) ?_
  refine g_geti fx hw h2 lf_RX1_64 rfl dX1_regard_78 ?_
  refine lv_ishl fx.1 fx.2.1 dX1_regard_81 ?_
  refine lv_iconst (v := 1) fx.1 fx.2.1 dX1_regard_82 (by decide) ?_
  refine lv_aload_n fx.1 fx.2.1 dX1_regard_83 rfl (lv_at hl 3 rfl) ?_
  refine g_geti fx hw h3 lf_RX1_64 rfl dX1_regard_84 ?_
  refine lv_ishl fx.1 fx.2.1 dX1_regard_87 ?_
  refine lv_ior fx.1 fx.2.1 dX1_regard_88 ?_
  refine lv_iconst (v := 1) fx.1 fx.2.1 dX1_regard_89 (by decide) ?_
  refine lv_aload fx.1 fx.2.1 dX1_regard_90 (lv_at hl 4 rfl) ?_
  refine g_geti fx hw h4 lf_RX1_64 rfl dX1_regard_92 ?_
  refine lv_ishl fx.1 fx.2.1 dX1_regard_95 ?_
  refine lv_ior fx.1 fx.2.1 dX1_regard_96 ?_
  obtain ⟨v8, hf, hok⟩ := gOk_bind hok
  refine g_callS0 fx hw (c_J6_bitCount_0f7a4 l X τ ((((1 : Int32) <<< ((gi G6 9 3 x2) &&& 31)) ||| ((1 : Int32) <<< ((gi G6 9 3 x3) &&& 31))) ||| ((1 : Int32) <<< ((gi G6 9 3 x4) &&& 31))) G6  hf) ls_RX1_67 ⟨rfl, rfl⟩ rfl hl.1 rfl ⟨Nat.le_of_ble_eq_true rfl, Nat.le_of_ble_eq_true rfl⟩ (Nat.le_of_ble_eq_true rfl) ⟨Nat.le_of_ble_eq_true rfl, Nat.le_of_ble_eq_true rfl⟩ dX1_regard_97 (fun H locs hw => ?_)
  refine g_iast fx hw h_a7 dX1_regard_100 hok (fun G9 H locs hw hok => ?_)
  refine lv_aload_n fx.1 fx.2.1 dX1_regard_101 rfl (lv_at hl 0 rfl) ?_
  refine g_getr fx hw h0 lf_RX1_24 rfl dX1_regard_102 hok (fun a10 h_a10 hok => ?_)
  refine lv_iconst (v := 4) fx.1 fx.2.1 dX1_regard_105 (by decide) ?_
  refine lv_aload_n fx.1 fx.2.1 dX1_regard_106 rfl (lv_at hl 1 rfl) ?_
  refine g_geti fx hw h1 lf_RX1_73 rfl dX1_regard_107 ?_
  refine g_iast fx hw h_a10 dX1_regard_110 hok (fun G11 H locs hw hok => ?_)
  refine lv_aload_n fx.1 fx.2.1 dX1_regard_111 rfl (lv_at hl 0 rfl) ?_
  refine g_getr fx hw h0 lf_RX1_24 rfl dX1_regard_112 hok (fun a12 h_a12 hok => ?_)
  refine lv_iconst (v := 5) fx.1 fx.2.1 dX1_regard_115 (by decide) ?_
  refine lv_aload_n fx.1 fx.2.1 dX1_regard_116 rfl (lv_at hl 1 rfl) ?_
  refine g_geti fx hw h1 lf_RX1_78 rfl dX1_regard_117 ?_
  refine g_iast fx hw h_a12 dX1_regard_120 hok (fun G13 H locs hw hok => ?_)
  refine lv_aload_n fx.1 fx.2.1 dX1_regard_121 rfl (lv_at hl 0 rfl) ?_
  refine g_getr fx hw h0 lf_RX1_24 rfl dX1_regard_122 hok (fun a14 h_a14 hok => ?_)
  refine lv_bipush (v := 6) fx.1 fx.2.1 dX1_regard_125 (by decide) ?_
  refine lv_aload_n fx.1 fx.2.1 dX1_regard_127 rfl (lv_at hl 1 rfl) ?_
  refine g_geti fx hw h1 lf_RX1_81 rfl dX1_regard_128 ?_
  refine g_iast fx hw h_a14 dX1_regard_131 hok (fun G15 H locs hw hok => ?_)
  refine lv_aload_n fx.1 fx.2.1 dX1_regard_132 rfl (lv_at hl 0 rfl) ?_
  refine g_getr fx hw h0 lf_RX1_24 rfl dX1_regard_133 hok (fun a16 h_a16 hok => ?_)
  refine lv_bipush (v := 7) fx.1 fx.2.1 dX1_regard_136 (by decide) ?_
  refine lv_aload_n fx.1 fx.2.1 dX1_regard_138 rfl (lv_at hl 1 rfl) ?_
  refine g_geti fx hw h1 lf_RX1_84 rfl dX1_regard_139 ?_
  refine g_iast fx hw h_a16 dX1_regard_142 hok (fun G17 H locs hw hok => ?_)
  refine lv_aload_n fx.1 fx.2.1 dX1_regard_143 rfl (lv_at hl 0 rfl) ?_
  refine g_getr fx hw h0 lf_RX1_24 rfl dX1_regard_144 hok (fun a18 h_a18 hok => ?_)
  refine lv_bipush (v := 8) fx.1 fx.2.1 dX1_regard_147 (by decide) ?_
  refine lv_aload_n fx.1 fx.2.1 dX1_regard_149 rfl (lv_at hl 1 rfl) ?_
  refine g_geti fx hw h1 lf_RX1_87 rfl dX1_regard_150 ?_
  refine g_iast fx hw h_a18 dX1_regard_153 hok (fun G19 H locs hw hok => ?_)
  refine lv_aload_n fx.1 fx.2.1 dX1_regard_154 rfl (lv_at hl 0 rfl) ?_
  refine g_getr fx hw h0 lf_RX1_24 rfl dX1_regard_155 hok (fun a20 h_a20 hok => ?_)
  refine lv_bipush (v := 9) fx.1 fx.2.1 dX1_regard_158 (by decide) ?_
  refine lv_aload_n fx.1 fx.2.1 dX1_regard_160 rfl (lv_at hl 1 rfl) ?_
  refine g_geti fx hw h1 lf_RX1_90 rfl dX1_regard_161 ?_
  refine g_if_eq (tgt := 171) fx dX1_regard_164 (by decide) hok (fun hok => ?_) (fun hok => ?_)
  · refine lv_iconst (v := 0) fx.1 fx.2.1 dX1_regard_171 (by decide) ?_
    exact w_X1_regard_172 fx x0 x5 a20 (9 : Int32) (0 : Int32) h0 h_a20 hr hw (lv_sub hl [0, 5] rfl) hok
  · refine lv_iconst (v := 1) fx.1 fx.2.1 dX1_regard_167 (by decide) ?_
    refine lv_goto (tgt := 172) fx.1 fx.2.1 dX1_regard_168 (by decide) ?_
    exact w_X1_regard_172 fx x0 x5 a20 (9 : Int32) (1 : Int32) h0 h_a20 hr hw (lv_sub hl [0, 5] rfl) hok
theorem dX1_valueOf_0 : decode cX1_valueOf 0 = .ok (.iload_n 1, 1) := by decide +kernel
theorem dX1_valueOf_1 : decode cX1_valueOf 1 = .ok (.sipush 1000, 3) := by decide +kernel
theorem dX1_valueOf_4 : decode cX1_valueOf 4 = .ok (.isub, 1) := by decide +kernel
theorem dX1_valueOf_5 : decode cX1_valueOf 5 = .ok (.istore_n 2, 1) := by decide +kernel
theorem dX1_valueOf_6 : decode cX1_valueOf 6 = .ok (.iload_n 2, 1) := by decide +kernel
theorem dX1_valueOf_7 : decode cX1_valueOf 7 = .ok (.ifCond .lt 18, 3) := by decide +kernel
theorem dX1_valueOf_10 : decode cX1_valueOf 10 = .ok (.iload_n 2, 1) := by decide +kernel
theorem dX1_valueOf_11 : decode cX1_valueOf 11 = .ok (.bipush 11, 2) := by decide +kernel
theorem dX1_valueOf_13 : decode cX1_valueOf 13 = .ok (.if_icmp .ge 12, 3) := by decide +kernel
theorem dX1_valueOf_16 : decode cX1_valueOf 16 = .ok (.aload_n 0, 1) := by decide +kernel
theorem dX1_valueOf_17 : decode cX1_valueOf 17 = .ok (.getfield 24, 3) := by decide +kernel
theorem dX1_valueOf_20 : decode cX1_valueOf 20 = .ok (.iload_n 2, 1) := by decide +kernel
theorem dX1_valueOf_21 : decode cX1_valueOf 21 = .ok (.iaload, 1) := by decide +kernel
theorem dX1_valueOf_22 : decode cX1_valueOf 22 = .ok (.goto 4, 3) := by decide +kernel
theorem dX1_valueOf_25 : decode cX1_valueOf 25 = .ok (.iload_n 1, 1) := by decide +kernel
theorem dX1_valueOf_26 : decode cX1_valueOf 26 = .ok (.ireturn, 1) := by decide +kernel
def rm_X1_valueOf : Room := { frames := 0, cells := 0, slots := 0, locals := 0 }
def f_X1_valueOf (τ : gτ) (x0 : Nat) (x1 : Int32) (G : gG) : Option (Int32) :=
  gLet (x1 - (1000 : Int32)) fun v1 =>
  if v1 < 0 then (some (x1))
  else (if (11 : Int32) ≤ v1 then (some (x1))
  else ((gr G 1 4 x0).bind fun a2 =>
  gchk (gIn v1 (gn τ a2)) <|
  some (ge G a2 (Int32.toNatClampNeg v1))))
set_option maxHeartbeats 4000000 in
set_option maxRecDepth 100000 in
theorem c_X1_valueOf (l : Launch) (X : gX) (τ : gτ) (x0 : Nat) (x1 : Int32) (G : gG) (h0 : gK τ x0 1) {r : Int32}  (h : f_X1_valueOf τ x0 x1 G = some r) : gM l X τ yX1_valueOf cX1_valueOf 3 (some .int) rm_X1_valueOf [.ref x0, .int x1] G (some (.int r)) G := by
  refine g_body (by decide +kernel) (Nat.le_of_ble_eq_true rfl) ?_
  intro p e s m args below meth c ls fx hr hw hl
  have fx : gFx X p s m args meth c cX1_valueOf 3 RX1 := fx
  have hl : lv_has ls 3 [(0, .ref x0), (1, .int x1)] := hl
  have hok : gOk (f_X1_valueOf τ x0 x1 G) (fun q => q = r) := ⟨_, h, rfl⟩
  unfold f_X1_valueOf at hok
  show W p l e rm_X1_valueOf s m args below meth c s.heap [] 0 0 (MQ below (gQ X τ (some (.int r)) G) args s 0 0 (gFree X)) _
  refine lv_iload_n fx.1 fx.2.1 dX1_valueOf_0 rfl (lv_at hl 1 rfl) ?_
  refine lv_sipush (v := 1000) fx.1 fx.2.1 dX1_valueOf_1 (by decide) ?_
  refine lv_isub fx.1 fx.2.1 dX1_valueOf_4 ?_
  refine g_leti hok (fun v1 hok => ?_)
  refine lv_istore_n (lv' := [(2, .int v1), (0, .ref x0), (1, .int x1)]) fx.1 fx.2.1 dX1_valueOf_5 rfl hl (by decide) rfl (fun ls hl => ?_)
  refine lv_iload_n fx.1 fx.2.1 dX1_valueOf_6 rfl (lv_at hl 0 rfl) ?_
  refine g_if_lt (tgt := 25) fx dX1_valueOf_7 (by decide) hok (fun hok => ?_) (fun hok => ?_)
  · refine lv_iload_n fx.1 fx.2.1 dX1_valueOf_25 rfl (lv_at hl 2 rfl) ?_
    cases gOk_some hok
    exact g_iret fx hw hr dX1_valueOf_26
  · refine lv_iload_n fx.1 fx.2.1 dX1_valueOf_10 rfl (lv_at hl 0 rfl) ?_
    refine lv_bipush (v := 11) fx.1 fx.2.1 dX1_valueOf_11 (by decide) ?_
    refine g_icmp_ge (tgt := 25) fx dX1_valueOf_13 (by decide) hok (fun hok => ?_) (fun hok => ?_)
    · refine lv_iload_n fx.1 fx.2.1 dX1_valueOf_25 rfl (lv_at hl 2 rfl) ?_
      cases gOk_some hok
      exact g_iret fx hw hr dX1_valueOf_26
    · refine lv_aload_n fx.1 fx.2.1 dX1_valueOf_16 rfl (lv_at hl 1 rfl) ?_
      refine g_getr fx hw h0 lf_RX1_24 rfl dX1_valueOf_17 hok (fun a2 h_a2 hok => ?_)
      refine lv_iload_n fx.1 fx.2.1 dX1_valueOf_20 rfl (lv_at hl 0 rfl) ?_
      refine g_iald fx hw h_a2 dX1_valueOf_21 hok (fun hok => ?_)
      refine lv_goto (tgt := 26) fx.1 fx.2.1 dX1_valueOf_22 (by decide) ?_
      cases gOk_some hok
      exact g_iret fx hw hr dX1_valueOf_26
theorem dX1_joined_0 : decode cX1_joined 0 = .ok (.iload_n 0, 1) := by decide +kernel
theorem dX1_joined_1 : decode cX1_joined 1 = .ok (.tableswitch 61 2001 2004 #[31, 35, 39, 50], 31) := by decide +kernel
theorem dX1_joined_32 : decode cX1_joined 32 = .ok (.iload_n 1, 1) := by decide +kernel
theorem dX1_joined_33 : decode cX1_joined 33 = .ok (.iload_n 2, 1) := by decide +kernel
theorem dX1_joined_34 : decode cX1_joined 34 = .ok (.iand, 1) := by decide +kernel
theorem dX1_joined_35 : decode cX1_joined 35 = .ok (.ireturn, 1) := by decide +kernel
theorem dX1_joined_36 : decode cX1_joined 36 = .ok (.iload_n 1, 1) := by decide +kernel
theorem dX1_joined_37 : decode cX1_joined 37 = .ok (.iload_n 2, 1) := by decide +kernel
theorem dX1_joined_38 : decode cX1_joined 38 = .ok (.ior, 1) := by decide +kernel
theorem dX1_joined_39 : decode cX1_joined 39 = .ok (.ireturn, 1) := by decide +kernel
theorem dX1_joined_40 : decode cX1_joined 40 = .ok (.iload_n 1, 1) := by decide +kernel
theorem dX1_joined_41 : decode cX1_joined 41 = .ok (.iload_n 2, 1) := by decide +kernel
theorem dX1_joined_42 : decode cX1_joined 42 = .ok (.if_icmp .ge 7, 3) := by decide +kernel
theorem dX1_joined_45 : decode cX1_joined 45 = .ok (.iconst 1, 1) := by decide +kernel
theorem dX1_joined_46 : decode cX1_joined 46 = .ok (.goto 4, 3) := by decide +kernel
theorem dX1_joined_49 : decode cX1_joined 49 = .ok (.iconst 0, 1) := by decide +kernel
theorem dX1_joined_50 : decode cX1_joined 50 = .ok (.ireturn, 1) := by decide +kernel
theorem dX1_joined_51 : decode cX1_joined 51 = .ok (.iload_n 1, 1) := by decide +kernel
theorem dX1_joined_52 : decode cX1_joined 52 = .ok (.iload_n 2, 1) := by decide +kernel
theorem dX1_joined_53 : decode cX1_joined 53 = .ok (.if_icmp .le 7, 3) := by decide +kernel
theorem dX1_joined_56 : decode cX1_joined 56 = .ok (.iconst 1, 1) := by decide +kernel
theorem dX1_joined_57 : decode cX1_joined 57 = .ok (.goto 4, 3) := by decide +kernel
theorem dX1_joined_60 : decode cX1_joined 60 = .ok (.iconst 0, 1) := by decide +kernel
theorem dX1_joined_61 : decode cX1_joined 61 = .ok (.ireturn, 1) := by decide +kernel
theorem dX1_joined_62 : decode cX1_joined 62 = .ok (.iload_n 1, 1) := by decide +kernel
theorem dX1_joined_63 : decode cX1_joined 63 = .ok (.iload_n 2, 1) := by decide +kernel
theorem dX1_joined_64 : decode cX1_joined 64 = .ok (.iadd, 1) := by decide +kernel
theorem dX1_joined_65 : decode cX1_joined 65 = .ok (.ireturn, 1) := by decide +kernel
def rm_X1_joined : Room := { frames := 0, cells := 0, slots := 0, locals := 0 }
def f_X1_joined (x0 : Int32) (x1 : Int32) (x2 : Int32) : Option (Int32) :=
  if x0 = 2001 then (some (x1 &&& x2))
  else if x0 = 2002 then (some (x1 ||| x2))
  else if x0 = 2003 then (if x2 ≤ x1 then (some (0))
  else (some (1)))
  else if x0 = 2004 then (if x1 ≤ x2 then (some (0))
  else (some (1)))
  else (some (x1 + x2))
set_option maxHeartbeats 4000000 in
set_option maxRecDepth 100000 in
theorem c_X1_joined (l : Launch) (X : gX) (τ : gτ) (x0 : Int32) (x1 : Int32) (x2 : Int32) (G : gG)  {r : Int32}  (h : f_X1_joined x0 x1 x2 = some r) : gM l X τ yX1_joined cX1_joined 3 (some .int) rm_X1_joined [.int x0, .int x1, .int x2] G (some (.int r)) G := by
  refine g_body (by decide +kernel) (Nat.le_of_ble_eq_true rfl) ?_
  intro p e s m args below meth c ls fx hr hw hl
  have fx : gFx X p s m args meth c cX1_joined 3 RX1 := fx
  have hl : lv_has ls 3 [(0, .int x0), (1, .int x1), (2, .int x2)] := hl
  have hok : gOk (f_X1_joined x0 x1 x2) (fun q => q = r) := ⟨_, h, rfl⟩
  unfold f_X1_joined at hok
  show W p l e rm_X1_joined s m args below meth c s.heap [] 0 0 (MQ below (gQ X τ (some (.int r)) G) args s 0 0 (gFree X)) _
  refine lv_iload_n fx.1 fx.2.1 dX1_joined_0 rfl (lv_at hl 0 rfl) ?_
  by_cases hc0 : x0 = 2001
  · have hok := gOk_t hok hc0
    refine lv_tableIn (tgt := 32) fx.1 fx.2.1 dX1_joined_1 (by rw [hc0]; decide) (by rw [hc0]; decide) (by rw [hc0]; rfl) (by decide) ?_
    refine lv_iload_n fx.1 fx.2.1 dX1_joined_32 rfl (lv_at hl 1 rfl) ?_
    refine lv_iload_n fx.1 fx.2.1 dX1_joined_33 rfl (lv_at hl 2 rfl) ?_
    refine lv_iand fx.1 fx.2.1 dX1_joined_34 ?_
    cases gOk_some hok
    exact g_iret fx hw hr dX1_joined_35
  have hok := gOk_f hok hc0
  by_cases hc1 : x0 = 2002
  · have hok := gOk_t hok hc1
    refine lv_tableIn (tgt := 36) fx.1 fx.2.1 dX1_joined_1 (by rw [hc1]; decide) (by rw [hc1]; decide) (by rw [hc1]; rfl) (by decide) ?_
    refine lv_iload_n fx.1 fx.2.1 dX1_joined_36 rfl (lv_at hl 1 rfl) ?_
    refine lv_iload_n fx.1 fx.2.1 dX1_joined_37 rfl (lv_at hl 2 rfl) ?_
    refine lv_ior fx.1 fx.2.1 dX1_joined_38 ?_
    cases gOk_some hok
    exact g_iret fx hw hr dX1_joined_39
  have hok := gOk_f hok hc1
  by_cases hc2 : x0 = 2003
  · have hok := gOk_t hok hc2
    refine lv_tableIn (tgt := 40) fx.1 fx.2.1 dX1_joined_1 (by rw [hc2]; decide) (by rw [hc2]; decide) (by rw [hc2]; rfl) (by decide) ?_
    refine lv_iload_n fx.1 fx.2.1 dX1_joined_40 rfl (lv_at hl 1 rfl) ?_
    refine lv_iload_n fx.1 fx.2.1 dX1_joined_41 rfl (lv_at hl 2 rfl) ?_
    refine g_icmp_ge (tgt := 49) fx dX1_joined_42 (by decide) hok (fun hok => ?_) (fun hok => ?_)
    · refine lv_iconst (v := 0) fx.1 fx.2.1 dX1_joined_49 (by decide) ?_
      cases gOk_some hok
      exact g_iret fx hw hr dX1_joined_50
    · refine lv_iconst (v := 1) fx.1 fx.2.1 dX1_joined_45 (by decide) ?_
      refine lv_goto (tgt := 50) fx.1 fx.2.1 dX1_joined_46 (by decide) ?_
      cases gOk_some hok
      exact g_iret fx hw hr dX1_joined_50
  have hok := gOk_f hok hc2
  by_cases hc3 : x0 = 2004
  · have hok := gOk_t hok hc3
    refine lv_tableIn (tgt := 51) fx.1 fx.2.1 dX1_joined_1 (by rw [hc3]; decide) (by rw [hc3]; decide) (by rw [hc3]; rfl) (by decide) ?_
    refine lv_iload_n fx.1 fx.2.1 dX1_joined_51 rfl (lv_at hl 1 rfl) ?_
    refine lv_iload_n fx.1 fx.2.1 dX1_joined_52 rfl (lv_at hl 2 rfl) ?_
    refine g_icmp_le (tgt := 60) fx dX1_joined_53 (by decide) hok (fun hok => ?_) (fun hok => ?_)
    · refine lv_iconst (v := 0) fx.1 fx.2.1 dX1_joined_60 (by decide) ?_
      cases gOk_some hok
      exact g_iret fx hw hr dX1_joined_61
    · refine lv_iconst (v := 1) fx.1 fx.2.1 dX1_joined_56 (by decide) ?_
      refine lv_goto (tgt := 61) fx.1 fx.2.1 dX1_joined_57 (by decide) ?_
      cases gOk_some hok
      exact g_iret fx hw hr dX1_joined_61
  have hok := gOk_f hok hc3
  refine lv_tableOut (tgt := 62) fx.1 fx.2.1 dX1_joined_1 (gOut 2001 4 (by decide) (by decide) (by decide) (by decide) (fun j hj => ?_)) (by decide) ?_
  · match j, hj with
    | 0, _ => exact hc0
    | 1, _ => exact hc1
    | 2, _ => exact hc2
    | 3, _ => exact hc3
  · refine lv_iload_n fx.1 fx.2.1 dX1_joined_62 rfl (lv_at hl 1 rfl) ?_
    refine lv_iload_n fx.1 fx.2.1 dX1_joined_63 rfl (lv_at hl 2 rfl) ?_
    refine lv_iadd fx.1 fx.2.1 dX1_joined_64 ?_
    cases gOk_some hok
    exact g_iret fx hw hr dX1_joined_65
theorem dX1_conditionHolds_0 : decode cX1_conditionHolds 0 = .ok (.iconst 0, 1) := by decide +kernel
theorem dX1_conditionHolds_1 : decode cX1_conditionHolds 1 = .ok (.istore_n 3, 1) := by decide +kernel
theorem dX1_conditionHolds_2 : decode cX1_conditionHolds 2 = .ok (.iload_n 1, 1) := by decide +kernel
theorem dX1_conditionHolds_3 : decode cX1_conditionHolds 3 = .ok (.istore 4, 2) := by decide +kernel
theorem dX1_conditionHolds_5 : decode cX1_conditionHolds 5 = .ok (.iload 4, 2) := by decide +kernel
theorem dX1_conditionHolds_7 : decode cX1_conditionHolds 7 = .ok (.iload_n 2, 1) := by decide +kernel
theorem dX1_conditionHolds_8 : decode cX1_conditionHolds 8 = .ok (.if_icmp .ge 119, 3) := by decide +kernel
theorem dX1_conditionHolds_11 : decode cX1_conditionHolds 11 = .ok (.aload_n 0, 1) := by decide +kernel
theorem dX1_conditionHolds_12 : decode cX1_conditionHolds 12 = .ok (.getfield 21, 3) := by decide +kernel
theorem dX1_conditionHolds_15 : decode cX1_conditionHolds 15 = .ok (.iload 4, 2) := by decide +kernel
theorem dX1_conditionHolds_17 : decode cX1_conditionHolds 17 = .ok (.iaload, 1) := by decide +kernel
theorem dX1_conditionHolds_18 : decode cX1_conditionHolds 18 = .ok (.istore 5, 2) := by decide +kernel
theorem dX1_conditionHolds_20 : decode cX1_conditionHolds 20 = .ok (.iload 5, 2) := by decide +kernel
theorem dX1_conditionHolds_22 : decode cX1_conditionHolds 22 = .ok (.sipush 2000, 3) := by decide +kernel
theorem dX1_conditionHolds_25 : decode cX1_conditionHolds 25 = .ok (.if_icmp .ge 27, 3) := by decide +kernel
theorem dX1_conditionHolds_28 : decode cX1_conditionHolds 28 = .ok (.iload_n 3, 1) := by decide +kernel
theorem dX1_conditionHolds_29 : decode cX1_conditionHolds 29 = .ok (.bipush 32, 2) := by decide +kernel
theorem dX1_conditionHolds_31 : decode cX1_conditionHolds 31 = .ok (.if_icmp .ge 90, 3) := by decide +kernel
theorem dX1_conditionHolds_34 : decode cX1_conditionHolds 34 = .ok (.aload_n 0, 1) := by decide +kernel
theorem dX1_conditionHolds_35 : decode cX1_conditionHolds 35 = .ok (.getfield 27, 3) := by decide +kernel
theorem dX1_conditionHolds_38 : decode cX1_conditionHolds 38 = .ok (.iload_n 3, 1) := by decide +kernel
theorem dX1_conditionHolds_39 : decode cX1_conditionHolds 39 = .ok (.aload_n 0, 1) := by decide +kernel
theorem dX1_conditionHolds_40 : decode cX1_conditionHolds 40 = .ok (.iload 5, 2) := by decide +kernel
theorem dX1_conditionHolds_42 : decode cX1_conditionHolds 42 = .ok (.invokevirtual 97, 3) := by decide +kernel
theorem dX1_conditionHolds_45 : decode cX1_conditionHolds 45 = .ok (.iastore, 1) := by decide +kernel
theorem dX1_conditionHolds_46 : decode cX1_conditionHolds 46 = .ok (.iinc 3 1, 3) := by decide +kernel
theorem dX1_conditionHolds_49 : decode cX1_conditionHolds 49 = .ok (.goto 72, 3) := by decide +kernel
theorem dX1_conditionHolds_52 : decode cX1_conditionHolds 52 = .ok (.iload 5, 2) := by decide +kernel
theorem dX1_conditionHolds_54 : decode cX1_conditionHolds 54 = .ok (.sipush 2000, 3) := by decide +kernel
theorem dX1_conditionHolds_57 : decode cX1_conditionHolds 57 = .ok (.if_icmp .ne 29, 3) := by decide +kernel
theorem dX1_conditionHolds_60 : decode cX1_conditionHolds 60 = .ok (.iload_n 3, 1) := by decide +kernel
theorem dX1_conditionHolds_61 : decode cX1_conditionHolds 61 = .ok (.iconst 1, 1) := by decide +kernel
theorem dX1_conditionHolds_62 : decode cX1_conditionHolds 62 = .ok (.if_icmp .lt 59, 3) := by decide +kernel
theorem dX1_conditionHolds_65 : decode cX1_conditionHolds 65 = .ok (.aload_n 0, 1) := by decide +kernel
theorem dX1_conditionHolds_66 : decode cX1_conditionHolds 66 = .ok (.getfield 27, 3) := by decide +kernel
theorem dX1_conditionHolds_69 : decode cX1_conditionHolds 69 = .ok (.iload_n 3, 1) := by decide +kernel
theorem dX1_conditionHolds_70 : decode cX1_conditionHolds 70 = .ok (.iconst 1, 1) := by decide +kernel
theorem dX1_conditionHolds_71 : decode cX1_conditionHolds 71 = .ok (.isub, 1) := by decide +kernel
theorem dX1_conditionHolds_72 : decode cX1_conditionHolds 72 = .ok (.iconst 1, 1) := by decide +kernel
theorem dX1_conditionHolds_73 : decode cX1_conditionHolds 73 = .ok (.aload_n 0, 1) := by decide +kernel
theorem dX1_conditionHolds_74 : decode cX1_conditionHolds 74 = .ok (.getfield 27, 3) := by decide +kernel
theorem dX1_conditionHolds_77 : decode cX1_conditionHolds 77 = .ok (.iload_n 3, 1) := by decide +kernel
theorem dX1_conditionHolds_78 : decode cX1_conditionHolds 78 = .ok (.iconst 1, 1) := by decide +kernel
theorem dX1_conditionHolds_79 : decode cX1_conditionHolds 79 = .ok (.isub, 1) := by decide +kernel
theorem dX1_conditionHolds_80 : decode cX1_conditionHolds 80 = .ok (.iaload, 1) := by decide +kernel
theorem dX1_conditionHolds_81 : decode cX1_conditionHolds 81 = .ok (.isub, 1) := by decide +kernel
theorem dX1_conditionHolds_82 : decode cX1_conditionHolds 82 = .ok (.iastore, 1) := by decide +kernel
theorem dX1_conditionHolds_83 : decode cX1_conditionHolds 83 = .ok (.goto 38, 3) := by decide +kernel
theorem dX1_conditionHolds_86 : decode cX1_conditionHolds 86 = .ok (.iload_n 3, 1) := by decide +kernel
theorem dX1_conditionHolds_87 : decode cX1_conditionHolds 87 = .ok (.iconst 2, 1) := by decide +kernel
theorem dX1_conditionHolds_88 : decode cX1_conditionHolds 88 = .ok (.if_icmp .lt 33, 3) := by decide +kernel
theorem dX1_conditionHolds_91 : decode cX1_conditionHolds 91 = .ok (.iinc 3 (-1), 3) := by decide +kernel
theorem dX1_conditionHolds_94 : decode cX1_conditionHolds 94 = .ok (.aload_n 0, 1) := by decide +kernel
theorem dX1_conditionHolds_95 : decode cX1_conditionHolds 95 = .ok (.getfield 27, 3) := by decide +kernel
theorem dX1_conditionHolds_98 : decode cX1_conditionHolds 98 = .ok (.iload_n 3, 1) := by decide +kernel
theorem dX1_conditionHolds_99 : decode cX1_conditionHolds 99 = .ok (.iconst 1, 1) := by decide +kernel
theorem dX1_conditionHolds_100 : decode cX1_conditionHolds 100 = .ok (.isub, 1) := by decide +kernel
theorem dX1_conditionHolds_101 : decode cX1_conditionHolds 101 = .ok (.iload 5, 2) := by decide +kernel
theorem dX1_conditionHolds_103 : decode cX1_conditionHolds 103 = .ok (.aload_n 0, 1) := by decide +kernel
theorem dX1_conditionHolds_104 : decode cX1_conditionHolds 104 = .ok (.getfield 27, 3) := by decide +kernel
theorem dX1_conditionHolds_107 : decode cX1_conditionHolds 107 = .ok (.iload_n 3, 1) := by decide +kernel
theorem dX1_conditionHolds_108 : decode cX1_conditionHolds 108 = .ok (.iconst 1, 1) := by decide +kernel
theorem dX1_conditionHolds_109 : decode cX1_conditionHolds 109 = .ok (.isub, 1) := by decide +kernel
theorem dX1_conditionHolds_110 : decode cX1_conditionHolds 110 = .ok (.iaload, 1) := by decide +kernel
theorem dX1_conditionHolds_111 : decode cX1_conditionHolds 111 = .ok (.aload_n 0, 1) := by decide +kernel
theorem dX1_conditionHolds_112 : decode cX1_conditionHolds 112 = .ok (.getfield 27, 3) := by decide +kernel
theorem dX1_conditionHolds_115 : decode cX1_conditionHolds 115 = .ok (.iload_n 3, 1) := by decide +kernel
theorem dX1_conditionHolds_116 : decode cX1_conditionHolds 116 = .ok (.iaload, 1) := by decide +kernel
theorem dX1_conditionHolds_117 : decode cX1_conditionHolds 117 = .ok (.invokestatic 100, 3) := by decide +kernel
theorem dX1_conditionHolds_120 : decode cX1_conditionHolds 120 = .ok (.iastore, 1) := by decide +kernel
theorem dX1_conditionHolds_121 : decode cX1_conditionHolds 121 = .ok (.iinc 4 1, 3) := by decide +kernel
theorem dX1_conditionHolds_124 : decode cX1_conditionHolds 124 = .ok (.goto (-119), 3) := by decide +kernel
theorem dX1_conditionHolds_127 : decode cX1_conditionHolds 127 = .ok (.iload_n 3, 1) := by decide +kernel
theorem dX1_conditionHolds_128 : decode cX1_conditionHolds 128 = .ok (.ifCond .eq 12, 3) := by decide +kernel
theorem dX1_conditionHolds_131 : decode cX1_conditionHolds 131 = .ok (.aload_n 0, 1) := by decide +kernel
theorem dX1_conditionHolds_132 : decode cX1_conditionHolds 132 = .ok (.getfield 27, 3) := by decide +kernel
theorem dX1_conditionHolds_135 : decode cX1_conditionHolds 135 = .ok (.iconst 0, 1) := by decide +kernel
theorem dX1_conditionHolds_136 : decode cX1_conditionHolds 136 = .ok (.iaload, 1) := by decide +kernel
theorem dX1_conditionHolds_137 : decode cX1_conditionHolds 137 = .ok (.ifCond .eq 7, 3) := by decide +kernel
theorem dX1_conditionHolds_140 : decode cX1_conditionHolds 140 = .ok (.iconst 1, 1) := by decide +kernel
theorem dX1_conditionHolds_141 : decode cX1_conditionHolds 141 = .ok (.goto 4, 3) := by decide +kernel
theorem dX1_conditionHolds_144 : decode cX1_conditionHolds 144 = .ok (.iconst 0, 1) := by decide +kernel
theorem dX1_conditionHolds_145 : decode cX1_conditionHolds 145 = .ok (.ireturn, 1) := by decide +kernel
theorem lf_RX1_27 : gLf RX1 27 1 5 := ⟨(RX1, TX1, 9), rfl, by decide, wA_t (wt2 (List.mem_of_getElem? (i := 98) (by decide +kernel))) (by decide +kernel), rfl⟩
theorem ls_RX1_100 : gLs RX1 100 yX1_joined cX1_joined 3 (some .int) 3 := gLs_of (wA_t (wt3 (List.mem_of_getElem? (i := 5) (by decide +kernel))) (by decide +kernel)) (wA_t (wt3 (List.mem_of_getElem? (i := 6) (by decide +kernel))) (by decide +kernel)) (wA_t (wt1 (List.mem_of_getElem? (i := 11) (by decide +kernel))) (by decide +kernel)) (wA_t (wt3 (List.mem_of_getElem? (i := 7) (by decide +kernel))) (by decide +kernel)) ⟨by decide +kernel, by decide +kernel, by decide +kernel⟩
theorem lv_RX1_97 : gLv RX1 97 RX1 yX1_valueOf cX1_valueOf 3 (some .int) 1 := gLv_of (wA_t (wt3 (List.mem_of_getElem? (i := 1) (by decide +kernel))) (by decide +kernel)) (wA_t (wt3 (List.mem_of_getElem? (i := 3) (by decide +kernel))) (by decide +kernel)) (wA_of (List.mem_append_left _ (List.mem_map.mpr ⟨(⟨"YearRope$Law", "valueOf", "(I)I"⟩, 9), wp1 (List.mem_of_getElem? (i := 2) (by decide +kernel)), rfl⟩)) (by decide +kernel)) (wA_t (wt1 (List.mem_of_getElem? (i := 11) (by decide +kernel))) (by decide +kernel)) (wA_t (wt3 (List.mem_of_getElem? (i := 4) (by decide +kernel))) (by decide +kernel)) ⟨rfl, by decide +kernel, by decide +kernel, by decide +kernel⟩
def rm_X1_conditionHolds : Room := { frames := 1, cells := 0, slots := 0, locals := 22 }
def b_X1_conditionHolds_5 (τ : gτ) (n : Nat) (x0 : Nat) (x2 : Int32) (x3 : Int32) (x4 : Int32) (G : gG) : Option ((Int32 × Int32 × gG) ⊕ ((Int32 × gG))) :=
  if x2 ≤ x4 then (some (.inr (x3, G)))
  else ((gr G 1 3 x0).bind fun a1 =>
  gchk (gIn x4 (gn τ a1)) <|
  gLet (ge G a1 (Int32.toNatClampNeg x4)) fun v2 =>
  if (2000 : Int32) ≤ v2 then (if v2 = (2000 : Int32) then (if x3 < (1 : Int32) then (gLet (x4 + 1) fun v3 =>
  some (.inl (x3, v3, G)))
  else ((gr G 1 5 x0).bind fun a4 =>
  (gr G 1 5 x0).bind fun a5 =>
  gchk (gIn (x3 - (1 : Int32)) (gn τ a5)) <|
  gchk (gIn (x3 - (1 : Int32)) (gn τ a4)) <| gLet (gse G a4 (Int32.toNatClampNeg (x3 - (1 : Int32))) ((1 : Int32) - (ge G a5 (Int32.toNatClampNeg (x3 - (1 : Int32)))))) fun G6 =>
  gLet (x4 + 1) fun v7 =>
  some (.inl (x3, v7, G6))))
  else (if x3 < (2 : Int32) then (gLet (x4 + 1) fun v8 =>
  some (.inl (x3, v8, G)))
  else (gLet (x3 + (-1)) fun v9 =>
  (gr G 1 5 x0).bind fun a10 =>
  (gr G 1 5 x0).bind fun a11 =>
  gchk (gIn (v9 - (1 : Int32)) (gn τ a11)) <|
  (gr G 1 5 x0).bind fun a12 =>
  gchk (gIn v9 (gn τ a12)) <|
  (f_X1_joined v2 (ge G a11 (Int32.toNatClampNeg (v9 - (1 : Int32)))) (ge G a12 (Int32.toNatClampNeg v9))).bind fun v13 =>
  gchk (gIn (v9 - (1 : Int32)) (gn τ a10)) <| gLet (gse G a10 (Int32.toNatClampNeg (v9 - (1 : Int32))) v13) fun G14 =>
  gLet (x4 + 1) fun v15 =>
  some (.inl (v9, v15, G14)))))
  else (if (32 : Int32) ≤ x3 then (gLet (x4 + 1) fun v16 =>
  some (.inl (x3, v16, G)))
  else ((gr G 1 5 x0).bind fun a17 =>
  (f_X1_valueOf τ x0 v2 G).bind fun v18 =>
  gchk (gIn x3 (gn τ a17)) <| gLet (gse G a17 (Int32.toNatClampNeg x3) v18) fun G19 =>
  gLet (x3 + 1) fun v20 =>
  gLet (x4 + 1) fun v21 =>
  some (.inl (v20, v21, G19)))))
def l_X1_conditionHolds_5 (τ : gτ) (n : Nat) (x0 : Nat) (x2 : Int32) (x3 : Int32) (x4 : Int32) (G : gG) : Option ((Int32 × gG)) :=
  gIter (fun (q : Int32 × Int32 × gG) => b_X1_conditionHolds_5 τ n x0 x2 q.1 q.2.1 q.2.2) n (x3, x4, G)
def k_X1_conditionHolds_127 (τ : gτ) (n : Nat) (x0 : Nat) (x3 : Int32)  (G : gG) : Option (Int32 × gG) :=
  if x3 = 0 then (some (1, G))
  else ((gr G 1 5 x0).bind fun a24 =>
  gchk (gIn (0 : Int32) (gn τ a24)) <|
  if (ge G a24 (Int32.toNatClampNeg (0 : Int32))) = 0 then (some (0, G))
  else (some (1, G)))
def f_X1_conditionHolds (τ : gτ) (n : Nat) (x0 : Nat) (x1 : Int32) (x2 : Int32) (G : gG) : Option (Int32 × gG) :=
  (l_X1_conditionHolds_5 τ n x0 x2 (0 : Int32) x1 G).bind fun q => gLet q.1 fun z22 => gLet q.2 fun G23 => 
  k_X1_conditionHolds_127 τ n x0 z22  G23
set_option maxHeartbeats 4000000 in
set_option maxRecDepth 100000 in
theorem w_b_X1_conditionHolds_5 {X : gX} {τ : gτ} {p : Program} {l : Launch} {e : Env} {s : State} {m : MethodId} {args : Array Value} {below : List Frame} {meth : Method} {c : Code} (fx : gFx X p s m args meth c cX1_conditionHolds 6 RX1) (n : Nat) (x0 : Nat) (x2 : Int32) (x3 : Int32) (x4 : Int32) (h0 : gK τ x0 1) {Q : State → Prop} {K : ((Int32 × Int32 × gG) ⊕ ((Int32 × gG))) → Prop} {G : gG} {H : Heap} {locs : List Loc} {ls : Array Slot} (hw : gHw X τ G H locs) (hl : lv_has ls 6 [(0, .ref x0), (2, .int x2), (3, .int x3), (4, .int x4)]) (hok : gOk (b_X1_conditionHolds_5 τ n x0 x2 x3 x4 G) K) (hc : ∀ (y3 : Int32) (y4 : Int32) (G : gG) (H : Heap) (locs : List Loc) (ls : Array Slot), gHw X τ G H locs → lv_has ls 6 [(0, .ref x0), (2, .int x2), (3, .int y3), (4, .int y4)] → K (.inl (y3, y4, G)) → W p l e rm_X1_conditionHolds s m args below meth c H locs 0 0 Q (F0 m 5 ls [])) (hx0 : ∀ (y3 : Int32) (G : gG) (H : Heap) (locs : List Loc) (ls : Array Slot), gHw X τ G H locs → lv_has ls 6 [(0, .ref x0), (3, .int y3)] → K (.inr (y3, G)) → W p l e rm_X1_conditionHolds s m args below meth c H locs 0 0 Q (F0 m 127 ls [])) : W p l e rm_X1_conditionHolds s m args below meth c H locs 0 0 Q (F0 m 5 ls []) := by
  unfold b_X1_conditionHolds_5 at hok
  refine lv_iload fx.1 fx.2.1 dX1_conditionHolds_5 (lv_at hl 3 rfl) ?_
  refine lv_iload_n fx.1 fx.2.1 dX1_conditionHolds_7 rfl (lv_at hl 1 rfl) ?_
  refine g_icmp_ge (tgt := 127) fx dX1_conditionHolds_8 (by decide) hok (fun hok => ?_) (fun hok => ?_)
  · exact hx0 x3 G _ _ _  hw (lv_sub hl [0, 2] rfl) (gOk_some hok)
  · refine lv_aload_n fx.1 fx.2.1 dX1_conditionHolds_11 rfl (lv_at hl 0 rfl) ?_
    refine g_getr fx hw h0 lf_RX1_21 rfl dX1_conditionHolds_12 hok (fun a1 h_a1 hok => ?_)
    refine lv_iload fx.1 fx.2.1 dX1_conditionHolds_15 (lv_at hl 3 rfl) ?_
    refine g_iald fx hw h_a1 dX1_conditionHolds_17 hok (fun hok => ?_)
    refine g_leti hok (fun v2 hok => ?_)
    refine lv_istore (lv' := [(5, .int v2), (0, .ref x0), (2, .int x2), (3, .int x3), (4, .int x4)]) fx.1 fx.2.1 dX1_conditionHolds_18 hl (by decide) rfl (fun ls hl => ?_)
    refine lv_iload fx.1 fx.2.1 dX1_conditionHolds_20 (lv_at hl 0 rfl) ?_
    refine lv_sipush (v := 2000) fx.1 fx.2.1 dX1_conditionHolds_22 (by decide) ?_
    refine g_icmp_ge (tgt := 52) fx dX1_conditionHolds_25 (by decide) hok (fun hok => ?_) (fun hok => ?_)
    · refine lv_iload fx.1 fx.2.1 dX1_conditionHolds_52 (lv_at hl 0 rfl) ?_
      refine lv_sipush (v := 2000) fx.1 fx.2.1 dX1_conditionHolds_54 (by decide) ?_
      refine g_icmp_ne (tgt := 86) fx dX1_conditionHolds_57 (by decide) hok (fun hok => ?_) (fun hok => ?_)
      · refine lv_iload_n fx.1 fx.2.1 dX1_conditionHolds_60 rfl (lv_at hl 3 rfl) ?_
        refine lv_iconst (v := 1) fx.1 fx.2.1 dX1_conditionHolds_61 (by decide) ?_
        refine g_icmp_lt (tgt := 121) fx dX1_conditionHolds_62 (by decide) hok (fun hok => ?_) (fun hok => ?_)
        · obtain ⟨v3, e_v3, hok⟩ := gOk_let hok
          refine lv_iinc (v := v3) (lv' := [(4, .int v3), (5, .int v2), (0, .ref x0), (2, .int x2), (3, .int x3)]) fx.1 fx.2.1 dX1_conditionHolds_121 hl (k := 4) rfl (by rw [e_v3]; rfl) (by decide) rfl (fun ls hl => ?_)
          refine lv_goto (tgt := 5) fx.1 fx.2.1 dX1_conditionHolds_124 (by decide) ?_
          exact hc x3 v3 G _ _ _  hw (lv_sub hl [2, 3, 4, 0] rfl) (gOk_some hok)
        · refine lv_aload_n fx.1 fx.2.1 dX1_conditionHolds_65 rfl (lv_at hl 1 rfl) ?_
          refine g_getr fx hw h0 lf_RX1_27 rfl dX1_conditionHolds_66 hok (fun a4 h_a4 hok => ?_)
          refine lv_iload_n fx.1 fx.2.1 dX1_conditionHolds_69 rfl (lv_at hl 3 rfl) ?_
          refine lv_iconst (v := 1) fx.1 fx.2.1 dX1_conditionHolds_70 (by decide) ?_
          refine lv_isub fx.1 fx.2.1 dX1_conditionHolds_71 ?_
          refine lv_iconst (v := 1) fx.1 fx.2.1 dX1_conditionHolds_72 (by decide) ?_
          refine lv_aload_n fx.1 fx.2.1 dX1_conditionHolds_73 rfl (lv_at hl 1 rfl) ?_
          refine g_getr fx hw h0 lf_RX1_27 rfl dX1_conditionHolds_74 hok (fun a5 h_a5 hok => ?_)
          refine lv_iload_n fx.1 fx.2.1 dX1_conditionHolds_77 rfl (lv_at hl 3 rfl) ?_
          refine lv_iconst (v := 1) fx.1 fx.2.1 dX1_conditionHolds_78 (by decide) ?_
          refine lv_isub fx.1 fx.2.1 dX1_conditionHolds_79 ?_
          refine g_iald fx hw h_a5 dX1_conditionHolds_80 hok (fun hok => ?_)
          refine lv_isub fx.1 fx.2.1 dX1_conditionHolds_81 ?_
          refine g_iast fx hw h_a4 dX1_conditionHolds_82 hok (fun G6 H locs hw hok => ?_)
          refine lv_goto (tgt := 121) fx.1 fx.2.1 dX1_conditionHolds_83 (by decide) ?_
          obtain ⟨v7, e_v7, hok⟩ := gOk_let hok
          refine lv_iinc (v := v7) (lv' := [(4, .int v7), (5, .int v2), (0, .ref x0), (2, .int x2), (3, .int x3)]) fx.1 fx.2.1 dX1_conditionHolds_121 hl (k := 4) rfl (by rw [e_v7]; rfl) (by decide) rfl (fun ls hl => ?_)
          refine lv_goto (tgt := 5) fx.1 fx.2.1 dX1_conditionHolds_124 (by decide) ?_
          exact hc x3 v7 G6 _ _ _  hw (lv_sub hl [2, 3, 4, 0] rfl) (gOk_some hok)
      · refine lv_iload_n fx.1 fx.2.1 dX1_conditionHolds_86 rfl (lv_at hl 3 rfl) ?_
        refine lv_iconst (v := 2) fx.1 fx.2.1 dX1_conditionHolds_87 (by decide) ?_
        refine g_icmp_lt (tgt := 121) fx dX1_conditionHolds_88 (by decide) hok (fun hok => ?_) (fun hok => ?_)
        · obtain ⟨v8, e_v8, hok⟩ := gOk_let hok
          refine lv_iinc (v := v8) (lv' := [(4, .int v8), (5, .int v2), (0, .ref x0), (2, .int x2), (3, .int x3)]) fx.1 fx.2.1 dX1_conditionHolds_121 hl (k := 4) rfl (by rw [e_v8]; rfl) (by decide) rfl (fun ls hl => ?_)
          refine lv_goto (tgt := 5) fx.1 fx.2.1 dX1_conditionHolds_124 (by decide) ?_
          exact hc x3 v8 G _ _ _  hw (lv_sub hl [2, 3, 4, 0] rfl) (gOk_some hok)
        · obtain ⟨v9, e_v9, hok⟩ := gOk_let hok
          refine lv_iinc (v := v9) (lv' := [(3, .int v9), (5, .int v2), (0, .ref x0), (2, .int x2), (4, .int x4)]) fx.1 fx.2.1 dX1_conditionHolds_91 hl (k := 3) rfl (by rw [e_v9]; rfl) (by decide) rfl (fun ls hl => ?_)
          refine lv_aload_n fx.1 fx.2.1 dX1_conditionHolds_94 rfl (lv_at hl 2 rfl) ?_
          refine g_getr fx hw h0 lf_RX1_27 rfl dX1_conditionHolds_95 hok (fun a10 h_a10 hok => ?_)
          refine lv_iload_n fx.1 fx.2.1 dX1_conditionHolds_98 rfl (lv_at hl 0 rfl) ?_
          refine lv_iconst (v := 1) fx.1 fx.2.1 dX1_conditionHolds_99 (by decide) ?_
          refine lv_isub fx.1 fx.2.1 dX1_conditionHolds_100 ?_
          refine lv_iload fx.1 fx.2.1 dX1_conditionHolds_101 (lv_at hl 1 rfl) ?_
          refine lv_aload_n fx.1 fx.2.1 dX1_conditionHolds_103 rfl (lv_at hl 2 rfl) ?_
          refine g_getr fx hw h0 lf_RX1_27 rfl dX1_conditionHolds_104 hok (fun a11 h_a11 hok => ?_)
          refine lv_iload_n fx.1 fx.2.1 dX1_conditionHolds_107 rfl (lv_at hl 0 rfl) ?_
          refine lv_iconst (v := 1) fx.1 fx.2.1 dX1_conditionHolds_108 (by decide) ?_
          refine lv_isub fx.1 fx.2.1 dX1_conditionHolds_109 ?_
          refine g_iald fx hw h_a11 dX1_conditionHolds_110 hok (fun hok => ?_)
          refine lv_aload_n fx.1 fx.2.1 dX1_conditionHolds_111 rfl (lv_at hl 2 rfl) ?_
          refine g_getr fx hw h0 lf_RX1_27 rfl dX1_conditionHolds_112 hok (fun a12 h_a12 hok => ?_)
          refine lv_iload_n fx.1 fx.2.1 dX1_conditionHolds_115 rfl (lv_at hl 0 rfl) ?_
          refine g_iald fx hw h_a12 dX1_conditionHolds_116 hok (fun hok => ?_)
          obtain ⟨v13, hf, hok⟩ := gOk_bind hok
          refine g_callS0 fx hw (c_X1_joined l X τ v2 (ge G a11 (Int32.toNatClampNeg (v9 - (1 : Int32)))) (ge G a12 (Int32.toNatClampNeg v9)) G  hf) ls_RX1_100 ⟨rfl, rfl⟩ rfl hl.1 rfl ⟨Nat.le_of_ble_eq_true rfl, Nat.le_of_ble_eq_true rfl⟩ (Nat.le_of_ble_eq_true rfl) ⟨Nat.le_of_ble_eq_true rfl, Nat.le_of_ble_eq_true rfl⟩ dX1_conditionHolds_117 (fun H locs hw => ?_)
          refine g_iast fx hw h_a10 dX1_conditionHolds_120 hok (fun G14 H locs hw hok => ?_)
          obtain ⟨v15, e_v15, hok⟩ := gOk_let hok
          refine lv_iinc (v := v15) (lv' := [(4, .int v15), (3, .int v9), (5, .int v2), (0, .ref x0), (2, .int x2)]) fx.1 fx.2.1 dX1_conditionHolds_121 hl (k := 4) rfl (by rw [e_v15]; rfl) (by decide) rfl (fun ls hl => ?_)
          refine lv_goto (tgt := 5) fx.1 fx.2.1 dX1_conditionHolds_124 (by decide) ?_
          exact hc v9 v15 G14 _ _ _  hw (lv_sub hl [3, 4, 1, 0] rfl) (gOk_some hok)
    · refine lv_iload_n fx.1 fx.2.1 dX1_conditionHolds_28 rfl (lv_at hl 3 rfl) ?_
      refine lv_bipush (v := 32) fx.1 fx.2.1 dX1_conditionHolds_29 (by decide) ?_
      refine g_icmp_ge (tgt := 121) fx dX1_conditionHolds_31 (by decide) hok (fun hok => ?_) (fun hok => ?_)
      · obtain ⟨v16, e_v16, hok⟩ := gOk_let hok
        refine lv_iinc (v := v16) (lv' := [(4, .int v16), (5, .int v2), (0, .ref x0), (2, .int x2), (3, .int x3)]) fx.1 fx.2.1 dX1_conditionHolds_121 hl (k := 4) rfl (by rw [e_v16]; rfl) (by decide) rfl (fun ls hl => ?_)
        refine lv_goto (tgt := 5) fx.1 fx.2.1 dX1_conditionHolds_124 (by decide) ?_
        exact hc x3 v16 G _ _ _  hw (lv_sub hl [2, 3, 4, 0] rfl) (gOk_some hok)
      · refine lv_aload_n fx.1 fx.2.1 dX1_conditionHolds_34 rfl (lv_at hl 1 rfl) ?_
        refine g_getr fx hw h0 lf_RX1_27 rfl dX1_conditionHolds_35 hok (fun a17 h_a17 hok => ?_)
        refine lv_iload_n fx.1 fx.2.1 dX1_conditionHolds_38 rfl (lv_at hl 3 rfl) ?_
        refine lv_aload_n fx.1 fx.2.1 dX1_conditionHolds_39 rfl (lv_at hl 1 rfl) ?_
        refine lv_iload fx.1 fx.2.1 dX1_conditionHolds_40 (lv_at hl 0 rfl) ?_
        obtain ⟨v18, hf, hok⟩ := gOk_bind hok
        refine g_callV0 (κ := 1) fx hw (c_X1_valueOf l X τ x0 v2 G h0 hf) lv_RX1_97 ⟨rfl, rfl⟩ rfl rfl h0 rfl hl.1 rfl ⟨Nat.le_of_ble_eq_true rfl, Nat.le_of_ble_eq_true rfl⟩ (Nat.le_of_ble_eq_true rfl) ⟨Nat.le_of_ble_eq_true rfl, Nat.le_of_ble_eq_true rfl⟩ dX1_conditionHolds_42 (fun H locs hw => ?_)
        refine g_iast fx hw h_a17 dX1_conditionHolds_45 hok (fun G19 H locs hw hok => ?_)
        obtain ⟨v20, e_v20, hok⟩ := gOk_let hok
        refine lv_iinc (v := v20) (lv' := [(3, .int v20), (5, .int v2), (0, .ref x0), (2, .int x2), (4, .int x4)]) fx.1 fx.2.1 dX1_conditionHolds_46 hl (k := 3) rfl (by rw [e_v20]; rfl) (by decide) rfl (fun ls hl => ?_)
        refine lv_goto (tgt := 121) fx.1 fx.2.1 dX1_conditionHolds_49 (by decide) ?_
        obtain ⟨v21, e_v21, hok⟩ := gOk_let hok
        refine lv_iinc (v := v21) (lv' := [(4, .int v21), (3, .int v20), (5, .int v2), (0, .ref x0), (2, .int x2)]) fx.1 fx.2.1 dX1_conditionHolds_121 hl (k := 4) rfl (by rw [e_v21]; rfl) (by decide) rfl (fun ls hl => ?_)
        refine lv_goto (tgt := 5) fx.1 fx.2.1 dX1_conditionHolds_124 (by decide) ?_
        exact hc v20 v21 G19 _ _ _  hw (lv_sub hl [3, 4, 1, 0] rfl) (gOk_some hok)
theorem w_l_X1_conditionHolds_5 {X : gX} {τ : gτ} {p : Program} {l : Launch} {e : Env} {s : State} {m : MethodId} {args : Array Value} {below : List Frame} {meth : Method} {c : Code} (fx : gFx X p s m args meth c cX1_conditionHolds 6 RX1) (n : Nat) (x0 : Nat) (x2 : Int32) (h0 : gK τ x0 1) {Q : State → Prop} {K : ((Int32 × gG)) → Prop} (hx0 : ∀ (y3 : Int32) (G : gG) (H : Heap) (locs : List Loc) (ls : Array Slot), gHw X τ G H locs → lv_has ls 6 [(0, .ref x0), (3, .int y3)] → K (y3, G) → W p l e rm_X1_conditionHolds s m args below meth c H locs 0 0 Q (F0 m 127 ls [])) : ∀ (k : Nat) (x3 : Int32) (x4 : Int32) (G : gG) (H : Heap) (locs : List Loc) (ls : Array Slot), gHw X τ G H locs → lv_has ls 6 [(0, .ref x0), (2, .int x2), (3, .int x3), (4, .int x4)] → gOk (gIter (fun (q : Int32 × Int32 × gG) => b_X1_conditionHolds_5 τ n x0 x2 q.1 q.2.1 q.2.2) k (x3, x4, G)) K → W p l e rm_X1_conditionHolds s m args below meth c H locs 0 0 Q (F0 m 5 ls []) := by
  intro k
  induction k with
  | zero =>
    intro x3 x4 G H locs ls hw hl hok
    exact gOk_iter0 hok
  | succ k hc =>
    intro x3 x4 G H locs ls hw hl hok
    exact w_b_X1_conditionHolds_5 fx n x0 x2 x3 x4 h0 hw hl (gOk_iter hok) hc hx0
set_option maxHeartbeats 4000000 in
set_option maxRecDepth 100000 in
theorem w_X1_conditionHolds_127 {X : gX} {τ : gτ} {p : Program} {l : Launch} {e : Env} {s : State} {m : MethodId} {args : Array Value} {below : List Frame} {meth : Method} {c : Code} (fx : gFx X p s m args meth c cX1_conditionHolds 6 RX1) (n : Nat) (x0 : Nat) (x3 : Int32)  (h0 : gK τ x0 1)  (hr : meth.sig.returnType = (some .boolean)) {r : Int32} {G' : gG} {G : gG} {H : Heap} {locs : List Loc} {ls : Array Slot} (hw : gHw X τ G H locs) (hl : lv_has ls 6 [(0, .ref x0), (3, .int x3)]) (hok : gOk (k_X1_conditionHolds_127 τ n x0 x3  G) (fun q => q = (r, G')))  : W p l e rm_X1_conditionHolds s m args below meth c H locs 0 0 (MQ below (gQ X τ (some (.int r)) G') args s 0 0 (gFree X)) (F0 m 127 ls []) := by
  unfold k_X1_conditionHolds_127 at hok
  refine lv_iload_n fx.1 fx.2.1 dX1_conditionHolds_127 rfl (lv_at hl 1 rfl) ?_
  refine g_if_eq (tgt := 140) fx dX1_conditionHolds_128 (by decide) hok (fun hok => ?_) (fun hok => ?_)
  · refine lv_iconst (v := 1) fx.1 fx.2.1 dX1_conditionHolds_140 (by decide) ?_
    refine lv_goto (tgt := 145) fx.1 fx.2.1 dX1_conditionHolds_141 (by decide) ?_
    cases gOk_some hok
    exact g_zret fx hw hr (by decide) dX1_conditionHolds_145
  · refine lv_aload_n fx.1 fx.2.1 dX1_conditionHolds_131 rfl (lv_at hl 0 rfl) ?_
    refine g_getr fx hw h0 lf_RX1_27 rfl dX1_conditionHolds_132 hok (fun a24 h_a24 hok => ?_)
    refine lv_iconst (v := 0) fx.1 fx.2.1 dX1_conditionHolds_135 (by decide) ?_
    refine g_iald fx hw h_a24 dX1_conditionHolds_136 hok (fun hok => ?_)
    refine g_if_eq (tgt := 144) fx dX1_conditionHolds_137 (by decide) hok (fun hok => ?_) (fun hok => ?_)
    · refine lv_iconst (v := 0) fx.1 fx.2.1 dX1_conditionHolds_144 (by decide) ?_
      cases gOk_some hok
      exact g_zret fx hw hr (by decide) dX1_conditionHolds_145
    · refine lv_iconst (v := 1) fx.1 fx.2.1 dX1_conditionHolds_140 (by decide) ?_
      refine lv_goto (tgt := 145) fx.1 fx.2.1 dX1_conditionHolds_141 (by decide) ?_
      cases gOk_some hok
      exact g_zret fx hw hr (by decide) dX1_conditionHolds_145
set_option maxHeartbeats 4000000 in
set_option maxRecDepth 100000 in
theorem c_X1_conditionHolds (l : Launch) (X : gX) (τ : gτ) (n : Nat) (x0 : Nat) (x1 : Int32) (x2 : Int32) (G : gG) (h0 : gK τ x0 1) {r : Int32} {G' : gG} (h : f_X1_conditionHolds τ n x0 x1 x2 G = some (r, G')) : gM l X τ yX1_conditionHolds cX1_conditionHolds 6 (some .boolean) rm_X1_conditionHolds [.ref x0, .int x1, .int x2] G (some (.int r)) G' := by
  refine g_body (by decide +kernel) (Nat.le_of_ble_eq_true rfl) ?_
  intro p e s m args below meth c ls fx hr hw hl
  have fx : gFx X p s m args meth c cX1_conditionHolds 6 RX1 := fx
  have hl : lv_has ls 6 [(0, .ref x0), (1, .int x1), (2, .int x2)] := hl
  have hok : gOk (f_X1_conditionHolds τ n x0 x1 x2 G) (fun q => q = (r, G')) := ⟨_, h, rfl⟩
  unfold f_X1_conditionHolds at hok
  show W p l e rm_X1_conditionHolds s m args below meth c s.heap [] 0 0 (MQ below (gQ X τ (some (.int r)) G') args s 0 0 (gFree X)) _
  refine lv_iconst (v := 0) fx.1 fx.2.1 dX1_conditionHolds_0 (by decide) ?_
  refine lv_istore_n (lv' := [(3, .int (0 : Int32)), (0, .ref x0), (1, .int x1), (2, .int x2)]) fx.1 fx.2.1 dX1_conditionHolds_1 rfl hl (by decide) rfl (fun ls hl => ?_)
  refine lv_iload_n fx.1 fx.2.1 dX1_conditionHolds_2 rfl (lv_at hl 2 rfl) ?_
  refine lv_istore (lv' := [(4, .int x1), (3, .int (0 : Int32)), (0, .ref x0), (1, .int x1), (2, .int x2)]) fx.1 fx.2.1 dX1_conditionHolds_3 hl (by decide) rfl (fun ls hl => ?_)
  refine w_l_X1_conditionHolds_5 fx n x0 x2 h0 ?_ n (0 : Int32) x1 G _ _ _  hw (lv_sub hl [2, 4, 1, 0] rfl) (gOk_bindK hok)
  intro z22 G23 H locs ls hw hl hok
  have hok : gOk (ρ := Int32 × gG) (k_X1_conditionHolds_127 τ n x0 z22  G23) _ := hok
  exact w_X1_conditionHolds_127 fx n x0 z22  h0  hr hw (lv_sub hl [0, 1] rfl) hok
theorem dX1_sumOfLines_0 : decode cX1_sumOfLines 0 = .ok (.iconst 0, 1) := by decide +kernel
theorem dX1_sumOfLines_1 : decode cX1_sumOfLines 1 = .ok (.istore_n 2, 1) := by decide +kernel
theorem dX1_sumOfLines_2 : decode cX1_sumOfLines 2 = .ok (.iconst 0, 1) := by decide +kernel
theorem dX1_sumOfLines_3 : decode cX1_sumOfLines 3 = .ok (.istore_n 3, 1) := by decide +kernel
theorem dX1_sumOfLines_4 : decode cX1_sumOfLines 4 = .ok (.iconst 0, 1) := by decide +kernel
theorem dX1_sumOfLines_5 : decode cX1_sumOfLines 5 = .ok (.istore 4, 2) := by decide +kernel
theorem dX1_sumOfLines_7 : decode cX1_sumOfLines 7 = .ok (.iload 4, 2) := by decide +kernel
theorem dX1_sumOfLines_9 : decode cX1_sumOfLines 9 = .ok (.aload_n 0, 1) := by decide +kernel
theorem dX1_sumOfLines_10 : decode cX1_sumOfLines 10 = .ok (.getfield 36, 3) := by decide +kernel
theorem dX1_sumOfLines_13 : decode cX1_sumOfLines 13 = .ok (.if_icmp .ge 53, 3) := by decide +kernel
theorem dX1_sumOfLines_16 : decode cX1_sumOfLines 16 = .ok (.aload_n 0, 1) := by decide +kernel
theorem dX1_sumOfLines_17 : decode cX1_sumOfLines 17 = .ok (.getfield 9, 3) := by decide +kernel
theorem dX1_sumOfLines_20 : decode cX1_sumOfLines 20 = .ok (.iload 4, 2) := by decide +kernel
theorem dX1_sumOfLines_22 : decode cX1_sumOfLines 22 = .ok (.iaload, 1) := by decide +kernel
theorem dX1_sumOfLines_23 : decode cX1_sumOfLines 23 = .ok (.iload_n 1, 1) := by decide +kernel
theorem dX1_sumOfLines_24 : decode cX1_sumOfLines 24 = .ok (.if_icmp .ne 28, 3) := by decide +kernel
theorem dX1_sumOfLines_27 : decode cX1_sumOfLines 27 = .ok (.aload_n 0, 1) := by decide +kernel
theorem dX1_sumOfLines_28 : decode cX1_sumOfLines 28 = .ok (.iload_n 3, 1) := by decide +kernel
theorem dX1_sumOfLines_29 : decode cX1_sumOfLines 29 = .ok (.aload_n 0, 1) := by decide +kernel
theorem dX1_sumOfLines_30 : decode cX1_sumOfLines 30 = .ok (.getfield 18, 3) := by decide +kernel
theorem dX1_sumOfLines_33 : decode cX1_sumOfLines 33 = .ok (.iload 4, 2) := by decide +kernel
theorem dX1_sumOfLines_35 : decode cX1_sumOfLines 35 = .ok (.iaload, 1) := by decide +kernel
theorem dX1_sumOfLines_36 : decode cX1_sumOfLines 36 = .ok (.invokevirtual 93, 3) := by decide +kernel
theorem dX1_sumOfLines_39 : decode cX1_sumOfLines 39 = .ok (.ifCond .eq 13, 3) := by decide +kernel
theorem dX1_sumOfLines_42 : decode cX1_sumOfLines 42 = .ok (.iload_n 2, 1) := by decide +kernel
theorem dX1_sumOfLines_43 : decode cX1_sumOfLines 43 = .ok (.aload_n 0, 1) := by decide +kernel
theorem dX1_sumOfLines_44 : decode cX1_sumOfLines 44 = .ok (.getfield 15, 3) := by decide +kernel
theorem dX1_sumOfLines_47 : decode cX1_sumOfLines 47 = .ok (.iload 4, 2) := by decide +kernel
theorem dX1_sumOfLines_49 : decode cX1_sumOfLines 49 = .ok (.iaload, 1) := by decide +kernel
theorem dX1_sumOfLines_50 : decode cX1_sumOfLines 50 = .ok (.iadd, 1) := by decide +kernel
theorem dX1_sumOfLines_51 : decode cX1_sumOfLines 51 = .ok (.istore_n 2, 1) := by decide +kernel
theorem dX1_sumOfLines_52 : decode cX1_sumOfLines 52 = .ok (.aload_n 0, 1) := by decide +kernel
theorem dX1_sumOfLines_53 : decode cX1_sumOfLines 53 = .ok (.getfield 18, 3) := by decide +kernel
theorem dX1_sumOfLines_56 : decode cX1_sumOfLines 56 = .ok (.iload 4, 2) := by decide +kernel
theorem dX1_sumOfLines_58 : decode cX1_sumOfLines 58 = .ok (.iaload, 1) := by decide +kernel
theorem dX1_sumOfLines_59 : decode cX1_sumOfLines 59 = .ok (.istore_n 3, 1) := by decide +kernel
theorem dX1_sumOfLines_60 : decode cX1_sumOfLines 60 = .ok (.iinc 4 1, 3) := by decide +kernel
theorem dX1_sumOfLines_63 : decode cX1_sumOfLines 63 = .ok (.goto (-56), 3) := by decide +kernel
theorem dX1_sumOfLines_66 : decode cX1_sumOfLines 66 = .ok (.iload_n 2, 1) := by decide +kernel
theorem dX1_sumOfLines_67 : decode cX1_sumOfLines 67 = .ok (.ireturn, 1) := by decide +kernel
theorem lv_RX1_93 : gLv RX1 93 RX1 yX1_conditionHolds cX1_conditionHolds 6 (some .boolean) 2 := gLv_of (wA_t (wt2 (List.mem_of_getElem? (i := 237) (by decide +kernel))) (by decide +kernel)) (wA_t (wt2 (List.mem_of_getElem? (i := 239) (by decide +kernel))) (by decide +kernel)) (wA_of (List.mem_append_left _ (List.mem_map.mpr ⟨(⟨"YearRope$Law", "conditionHolds", "(II)Z"⟩, 9), wp1 (List.mem_of_getElem? (i := 1) (by decide +kernel)), rfl⟩)) (by decide +kernel)) (wA_t (wt1 (List.mem_of_getElem? (i := 11) (by decide +kernel))) (by decide +kernel)) (wA_t (wt3 (List.mem_of_getElem? (i := 0) (by decide +kernel))) (by decide +kernel)) ⟨rfl, by decide +kernel, by decide +kernel, by decide +kernel⟩
def rm_X1_sumOfLines : Room := { frames := 2, cells := 0, slots := 0, locals := 47 }
def k_X1_sumOfLines_52 (τ : gτ) (n : Nat) (x0 : Nat) (x1 : Int32) (x2 : Int32) (x4 : Int32)  (G : gG) : Option ((Int32 × Int32 × Int32 × gG) ⊕ ((Int32 × gG))) :=
  (gr G 1 2 x0).bind fun a5 =>
  gchk (gIn x4 (gn τ a5)) <|
  gLet (ge G a5 (Int32.toNatClampNeg x4)) fun v6 =>
  gLet (x4 + 1) fun v7 =>
  some (.inl (x2, v6, v7, G))
def b_X1_sumOfLines_7 (τ : gτ) (n : Nat) (x0 : Nat) (x1 : Int32) (x2 : Int32) (x3 : Int32) (x4 : Int32) (G : gG) : Option ((Int32 × Int32 × Int32 × gG) ⊕ ((Int32 × gG))) :=
  if (gi G 1 6 x0) ≤ x4 then (some (.inr (x2, G)))
  else ((gr G 1 0 x0).bind fun a1 =>
  gchk (gIn x4 (gn τ a1)) <|
  if (ge G a1 (Int32.toNatClampNeg x4)) = x1 then ((gr G 1 2 x0).bind fun a2 =>
  gchk (gIn x4 (gn τ a2)) <|
  gBind2 (f_X1_conditionHolds τ n x0 x3 (ge G a2 (Int32.toNatClampNeg x4)) G) fun v3 G4 =>
  if v3 = 0 then (k_X1_sumOfLines_52 τ n x0 x1 x2 x4  G4)
  else ((gr G4 1 1 x0).bind fun a8 =>
  gchk (gIn x4 (gn τ a8)) <|
  gLet (x2 + (ge G4 a8 (Int32.toNatClampNeg x4))) fun v9 =>
  k_X1_sumOfLines_52 τ n x0 x1 v9 x4  G4))
  else (k_X1_sumOfLines_52 τ n x0 x1 x2 x4  G))
def l_X1_sumOfLines_7 (τ : gτ) (n : Nat) (x0 : Nat) (x1 : Int32) (x2 : Int32) (x3 : Int32) (x4 : Int32) (G : gG) : Option ((Int32 × gG)) :=
  gIter (fun (q : Int32 × Int32 × Int32 × gG) => b_X1_sumOfLines_7 τ n x0 x1 q.1 q.2.1 q.2.2.1 q.2.2.2) n (x2, x3, x4, G)
def f_X1_sumOfLines (τ : gτ) (n : Nat) (x0 : Nat) (x1 : Int32) (G : gG) : Option (Int32 × gG) :=
  (l_X1_sumOfLines_7 τ n x0 x1 (0 : Int32) (0 : Int32) (0 : Int32) G).bind fun q => gLet q.1 fun z10 => gLet q.2 fun G11 => 
  some (z10, G11)
set_option maxHeartbeats 4000000 in
set_option maxRecDepth 100000 in
theorem w_X1_sumOfLines_52 {X : gX} {τ : gτ} {p : Program} {l : Launch} {e : Env} {s : State} {m : MethodId} {args : Array Value} {below : List Frame} {meth : Method} {c : Code} (fx : gFx X p s m args meth c cX1_sumOfLines 5 RX1) (n : Nat) (x0 : Nat) (x1 : Int32) (x2 : Int32) (x4 : Int32)  (h0 : gK τ x0 1)  {Q : State → Prop} {K : ((Int32 × Int32 × Int32 × gG) ⊕ ((Int32 × gG))) → Prop} {G : gG} {H : Heap} {locs : List Loc} {ls : Array Slot} (hw : gHw X τ G H locs) (hl : lv_has ls 5 [(0, .ref x0), (1, .int x1), (2, .int x2), (4, .int x4)]) (hok : gOk (k_X1_sumOfLines_52 τ n x0 x1 x2 x4  G) K) (hc : ∀ (y2 : Int32) (y3 : Int32) (y4 : Int32) (G : gG) (H : Heap) (locs : List Loc) (ls : Array Slot), gHw X τ G H locs → lv_has ls 5 [(0, .ref x0), (1, .int x1), (2, .int y2), (3, .int y3), (4, .int y4)] → K (.inl (y2, y3, y4, G)) → W p l e rm_X1_sumOfLines s m args below meth c H locs 0 0 Q (F0 m 7 ls [])) (hx0 : ∀ (y2 : Int32) (G : gG) (H : Heap) (locs : List Loc) (ls : Array Slot), gHw X τ G H locs → lv_has ls 5 [(2, .int y2)] → K (.inr (y2, G)) → W p l e rm_X1_sumOfLines s m args below meth c H locs 0 0 Q (F0 m 66 ls [])) : W p l e rm_X1_sumOfLines s m args below meth c H locs 0 0 Q (F0 m 52 ls []) := by
  unfold k_X1_sumOfLines_52 at hok
  refine lv_aload_n fx.1 fx.2.1 dX1_sumOfLines_52 rfl (lv_at hl 0 rfl) ?_
  refine g_getr fx hw h0 lf_RX1_18 rfl dX1_sumOfLines_53 hok (fun a5 h_a5 hok => ?_)
  refine lv_iload fx.1 fx.2.1 dX1_sumOfLines_56 (lv_at hl 3 rfl) ?_
  refine g_iald fx hw h_a5 dX1_sumOfLines_58 hok (fun hok => ?_)
  refine g_leti hok (fun v6 hok => ?_)
  refine lv_istore_n (lv' := [(3, .int v6), (0, .ref x0), (1, .int x1), (2, .int x2), (4, .int x4)]) fx.1 fx.2.1 dX1_sumOfLines_59 rfl hl (by decide) rfl (fun ls hl => ?_)
  obtain ⟨v7, e_v7, hok⟩ := gOk_let hok
  refine lv_iinc (v := v7) (lv' := [(4, .int v7), (3, .int v6), (0, .ref x0), (1, .int x1), (2, .int x2)]) fx.1 fx.2.1 dX1_sumOfLines_60 hl (k := 4) rfl (by rw [e_v7]; rfl) (by decide) rfl (fun ls hl => ?_)
  refine lv_goto (tgt := 7) fx.1 fx.2.1 dX1_sumOfLines_63 (by decide) ?_
  exact hc x2 v6 v7 G _ _ _  hw (lv_sub hl [2, 3, 4, 1, 0] rfl) (gOk_some hok)
set_option maxHeartbeats 4000000 in
set_option maxRecDepth 100000 in
theorem w_b_X1_sumOfLines_7 {X : gX} {τ : gτ} {p : Program} {l : Launch} {e : Env} {s : State} {m : MethodId} {args : Array Value} {below : List Frame} {meth : Method} {c : Code} (fx : gFx X p s m args meth c cX1_sumOfLines 5 RX1) (n : Nat) (x0 : Nat) (x1 : Int32) (x2 : Int32) (x3 : Int32) (x4 : Int32) (h0 : gK τ x0 1) {Q : State → Prop} {K : ((Int32 × Int32 × Int32 × gG) ⊕ ((Int32 × gG))) → Prop} {G : gG} {H : Heap} {locs : List Loc} {ls : Array Slot} (hw : gHw X τ G H locs) (hl : lv_has ls 5 [(0, .ref x0), (1, .int x1), (2, .int x2), (3, .int x3), (4, .int x4)]) (hok : gOk (b_X1_sumOfLines_7 τ n x0 x1 x2 x3 x4 G) K) (hc : ∀ (y2 : Int32) (y3 : Int32) (y4 : Int32) (G : gG) (H : Heap) (locs : List Loc) (ls : Array Slot), gHw X τ G H locs → lv_has ls 5 [(0, .ref x0), (1, .int x1), (2, .int y2), (3, .int y3), (4, .int y4)] → K (.inl (y2, y3, y4, G)) → W p l e rm_X1_sumOfLines s m args below meth c H locs 0 0 Q (F0 m 7 ls [])) (hx0 : ∀ (y2 : Int32) (G : gG) (H : Heap) (locs : List Loc) (ls : Array Slot), gHw X τ G H locs → lv_has ls 5 [(2, .int y2)] → K (.inr (y2, G)) → W p l e rm_X1_sumOfLines s m args below meth c H locs 0 0 Q (F0 m 66 ls [])) : W p l e rm_X1_sumOfLines s m args below meth c H locs 0 0 Q (F0 m 7 ls []) := by
  unfold b_X1_sumOfLines_7 at hok
  refine lv_iload fx.1 fx.2.1 dX1_sumOfLines_7 (lv_at hl 4 rfl) ?_
  refine lv_aload_n fx.1 fx.2.1 dX1_sumOfLines_9 rfl (lv_at hl 0 rfl) ?_
  refine g_geti fx hw h0 lf_RX1_36 rfl dX1_sumOfLines_10 ?_
  refine g_icmp_ge (tgt := 66) fx dX1_sumOfLines_13 (by decide) hok (fun hok => ?_) (fun hok => ?_)
  · exact hx0 x2 G _ _ _  hw (lv_sub hl [2] rfl) (gOk_some hok)
  · refine lv_aload_n fx.1 fx.2.1 dX1_sumOfLines_16 rfl (lv_at hl 0 rfl) ?_
    refine g_getr fx hw h0 lf_RX1_9 rfl dX1_sumOfLines_17 hok (fun a1 h_a1 hok => ?_)
    refine lv_iload fx.1 fx.2.1 dX1_sumOfLines_20 (lv_at hl 4 rfl) ?_
    refine g_iald fx hw h_a1 dX1_sumOfLines_22 hok (fun hok => ?_)
    refine lv_iload_n fx.1 fx.2.1 dX1_sumOfLines_23 rfl (lv_at hl 1 rfl) ?_
    refine g_icmp_ne (tgt := 52) fx dX1_sumOfLines_24 (by decide) hok (fun hok => ?_) (fun hok => ?_)
    · refine lv_aload_n fx.1 fx.2.1 dX1_sumOfLines_27 rfl (lv_at hl 0 rfl) ?_
      refine lv_iload_n fx.1 fx.2.1 dX1_sumOfLines_28 rfl (lv_at hl 3 rfl) ?_
      refine lv_aload_n fx.1 fx.2.1 dX1_sumOfLines_29 rfl (lv_at hl 0 rfl) ?_
      refine g_getr fx hw h0 lf_RX1_18 rfl dX1_sumOfLines_30 hok (fun a2 h_a2 hok => ?_)
      refine lv_iload fx.1 fx.2.1 dX1_sumOfLines_33 (lv_at hl 4 rfl) ?_
      refine g_iald fx hw h_a2 dX1_sumOfLines_35 hok (fun hok => ?_)
      obtain ⟨v3, G4, hf, hok⟩ := gOk_bind2 hok
      refine g_callV0 (κ := 1) fx hw (c_X1_conditionHolds l X τ n x0 x3 (ge G a2 (Int32.toNatClampNeg x4)) G h0 hf) lv_RX1_93 ⟨rfl, rfl⟩ rfl rfl h0 rfl hl.1 rfl ⟨Nat.le_of_ble_eq_true rfl, Nat.le_of_ble_eq_true rfl⟩ (Nat.le_of_ble_eq_true rfl) ⟨Nat.le_of_ble_eq_true rfl, Nat.le_of_ble_eq_true rfl⟩ dX1_sumOfLines_36 (fun H locs hw => ?_)
      refine g_if_eq (tgt := 52) fx dX1_sumOfLines_39 (by decide) hok (fun hok => ?_) (fun hok => ?_)
      · exact w_X1_sumOfLines_52 fx n x0 x1 x2 x4  h0  hw (lv_sub hl [0, 1, 2, 4] rfl) hok hc hx0
      · refine lv_iload_n fx.1 fx.2.1 dX1_sumOfLines_42 rfl (lv_at hl 2 rfl) ?_
        refine lv_aload_n fx.1 fx.2.1 dX1_sumOfLines_43 rfl (lv_at hl 0 rfl) ?_
        refine g_getr fx hw h0 lf_RX1_15 rfl dX1_sumOfLines_44 hok (fun a8 h_a8 hok => ?_)
        refine lv_iload fx.1 fx.2.1 dX1_sumOfLines_47 (lv_at hl 4 rfl) ?_
        refine g_iald fx hw h_a8 dX1_sumOfLines_49 hok (fun hok => ?_)
        refine lv_iadd fx.1 fx.2.1 dX1_sumOfLines_50 ?_
        refine g_leti hok (fun v9 hok => ?_)
        refine lv_istore_n (lv' := [(2, .int v9), (0, .ref x0), (1, .int x1), (3, .int x3), (4, .int x4)]) fx.1 fx.2.1 dX1_sumOfLines_51 rfl hl (by decide) rfl (fun ls hl => ?_)
        exact w_X1_sumOfLines_52 fx n x0 x1 v9 x4  h0  hw (lv_sub hl [1, 2, 0, 4] rfl) hok hc hx0
    · exact w_X1_sumOfLines_52 fx n x0 x1 x2 x4  h0  hw (lv_sub hl [0, 1, 2, 4] rfl) hok hc hx0
theorem w_l_X1_sumOfLines_7 {X : gX} {τ : gτ} {p : Program} {l : Launch} {e : Env} {s : State} {m : MethodId} {args : Array Value} {below : List Frame} {meth : Method} {c : Code} (fx : gFx X p s m args meth c cX1_sumOfLines 5 RX1) (n : Nat) (x0 : Nat) (x1 : Int32) (h0 : gK τ x0 1) {Q : State → Prop} {K : ((Int32 × gG)) → Prop} (hx0 : ∀ (y2 : Int32) (G : gG) (H : Heap) (locs : List Loc) (ls : Array Slot), gHw X τ G H locs → lv_has ls 5 [(2, .int y2)] → K (y2, G) → W p l e rm_X1_sumOfLines s m args below meth c H locs 0 0 Q (F0 m 66 ls [])) : ∀ (k : Nat) (x2 : Int32) (x3 : Int32) (x4 : Int32) (G : gG) (H : Heap) (locs : List Loc) (ls : Array Slot), gHw X τ G H locs → lv_has ls 5 [(0, .ref x0), (1, .int x1), (2, .int x2), (3, .int x3), (4, .int x4)] → gOk (gIter (fun (q : Int32 × Int32 × Int32 × gG) => b_X1_sumOfLines_7 τ n x0 x1 q.1 q.2.1 q.2.2.1 q.2.2.2) k (x2, x3, x4, G)) K → W p l e rm_X1_sumOfLines s m args below meth c H locs 0 0 Q (F0 m 7 ls []) := by
  intro k
  induction k with
  | zero =>
    intro x2 x3 x4 G H locs ls hw hl hok
    exact gOk_iter0 hok
  | succ k hc =>
    intro x2 x3 x4 G H locs ls hw hl hok
    exact w_b_X1_sumOfLines_7 fx n x0 x1 x2 x3 x4 h0 hw hl (gOk_iter hok) hc hx0
set_option maxHeartbeats 4000000 in
set_option maxRecDepth 100000 in
theorem c_X1_sumOfLines (l : Launch) (X : gX) (τ : gτ) (n : Nat) (x0 : Nat) (x1 : Int32) (G : gG) (h0 : gK τ x0 1) {r : Int32} {G' : gG} (h : f_X1_sumOfLines τ n x0 x1 G = some (r, G')) : gM l X τ yX1_sumOfLines cX1_sumOfLines 5 (some .int) rm_X1_sumOfLines [.ref x0, .int x1] G (some (.int r)) G' := by
  refine g_body (by decide +kernel) (Nat.le_of_ble_eq_true rfl) ?_
  intro p e s m args below meth c ls fx hr hw hl
  have fx : gFx X p s m args meth c cX1_sumOfLines 5 RX1 := fx
  have hl : lv_has ls 5 [(0, .ref x0), (1, .int x1)] := hl
  have hok : gOk (f_X1_sumOfLines τ n x0 x1 G) (fun q => q = (r, G')) := ⟨_, h, rfl⟩
  unfold f_X1_sumOfLines at hok
  show W p l e rm_X1_sumOfLines s m args below meth c s.heap [] 0 0 (MQ below (gQ X τ (some (.int r)) G') args s 0 0 (gFree X)) _
  refine lv_iconst (v := 0) fx.1 fx.2.1 dX1_sumOfLines_0 (by decide) ?_
  refine lv_istore_n (lv' := [(2, .int (0 : Int32)), (0, .ref x0), (1, .int x1)]) fx.1 fx.2.1 dX1_sumOfLines_1 rfl hl (by decide) rfl (fun ls hl => ?_)
  refine lv_iconst (v := 0) fx.1 fx.2.1 dX1_sumOfLines_2 (by decide) ?_
  refine lv_istore_n (lv' := [(3, .int (0 : Int32)), (2, .int (0 : Int32)), (0, .ref x0), (1, .int x1)]) fx.1 fx.2.1 dX1_sumOfLines_3 rfl hl (by decide) rfl (fun ls hl => ?_)
  refine lv_iconst (v := 0) fx.1 fx.2.1 dX1_sumOfLines_4 (by decide) ?_
  refine lv_istore (lv' := [(4, .int (0 : Int32)), (3, .int (0 : Int32)), (2, .int (0 : Int32)), (0, .ref x0), (1, .int x1)]) fx.1 fx.2.1 dX1_sumOfLines_5 hl (by decide) rfl (fun ls hl => ?_)
  refine w_l_X1_sumOfLines_7 fx n x0 x1 h0 ?_ n (0 : Int32) (0 : Int32) (0 : Int32) G _ _ _  hw (lv_sub hl [3, 4, 2, 1, 0] rfl) (gOk_bindK hok)
  intro z10 G11 H locs ls hw hl hok
  have hok : gOk (ρ := Int32 × gG) (some (z10, G11)) _ := hok
  refine lv_iload_n fx.1 fx.2.1 dX1_sumOfLines_66 rfl (lv_at hl 0 rfl) ?_
  cases gOk_some hok
  exact g_iret fx hw hr dX1_sumOfLines_67
theorem dX7_advance_0 : decode cX7_advance 0 = .ok (.aload_n 0, 1) := by decide +kernel
theorem dX7_advance_1 : decode cX7_advance 1 = .ok (.dup, 1) := by decide +kernel
theorem dX7_advance_2 : decode cX7_advance 2 = .ok (.getfield 22, 3) := by decide +kernel
theorem dX7_advance_5 : decode cX7_advance 5 = .ok (.aload_n 0, 1) := by decide +kernel
theorem dX7_advance_6 : decode cX7_advance 6 = .ok (.getfield 25, 3) := by decide +kernel
theorem dX7_advance_9 : decode cX7_advance 9 = .ok (.iadd, 1) := by decide +kernel
theorem dX7_advance_10 : decode cX7_advance 10 = .ok (.putfield 22, 3) := by decide +kernel
theorem dX7_advance_13 : decode cX7_advance 13 = .ok (.aload_n 0, 1) := by decide +kernel
theorem dX7_advance_14 : decode cX7_advance 14 = .ok (.getfield 22, 3) := by decide +kernel
theorem dX7_advance_17 : decode cX7_advance 17 = .ok (.istore_n 1, 1) := by decide +kernel
theorem dX7_advance_18 : decode cX7_advance 18 = .ok (.iload_n 1, 1) := by decide +kernel
theorem dX7_advance_19 : decode cX7_advance 19 = .ok (.aload_n 0, 1) := by decide +kernel
theorem dX7_advance_20 : decode cX7_advance 20 = .ok (.getfield 19, 3) := by decide +kernel
theorem dX7_advance_23 : decode cX7_advance 23 = .ok (.if_icmp .ge 30, 3) := by decide +kernel
theorem dX7_advance_26 : decode cX7_advance 26 = .ok (.aload_n 0, 1) := by decide +kernel
theorem dX7_advance_27 : decode cX7_advance 27 = .ok (.getfield 9, 3) := by decide +kernel
theorem dX7_advance_30 : decode cX7_advance 30 = .ok (.iload_n 1, 1) := by decide +kernel
theorem dX7_advance_31 : decode cX7_advance 31 = .ok (.iaload, 1) := by decide +kernel
theorem dX7_advance_32 : decode cX7_advance 32 = .ok (.bipush 32, 2) := by decide +kernel
theorem dX7_advance_34 : decode cX7_advance 34 = .ok (.if_icmp .ne 19, 3) := by decide +kernel
theorem dX7_advance_37 : decode cX7_advance 37 = .ok (.aload_n 0, 1) := by decide +kernel
theorem dX7_advance_38 : decode cX7_advance 38 = .ok (.dup, 1) := by decide +kernel
theorem dX7_advance_39 : decode cX7_advance 39 = .ok (.getfield 22, 3) := by decide +kernel
theorem dX7_advance_42 : decode cX7_advance 42 = .ok (.iconst 1, 1) := by decide +kernel
theorem dX7_advance_43 : decode cX7_advance 43 = .ok (.iadd, 1) := by decide +kernel
theorem dX7_advance_44 : decode cX7_advance 44 = .ok (.putfield 22, 3) := by decide +kernel
theorem dX7_advance_47 : decode cX7_advance 47 = .ok (.iinc 1 1, 3) := by decide +kernel
theorem dX7_advance_50 : decode cX7_advance 50 = .ok (.goto (-32), 3) := by decide +kernel
theorem dX7_advance_53 : decode cX7_advance 53 = .ok (.aload_n 0, 1) := by decide +kernel
theorem dX7_advance_54 : decode cX7_advance 54 = .ok (.iconst 0, 1) := by decide +kernel
theorem dX7_advance_55 : decode cX7_advance 55 = .ok (.putfield 25, 3) := by decide +kernel
theorem dX7_advance_58 : decode cX7_advance 58 = .ok (.aload_n 0, 1) := by decide +kernel
theorem dX7_advance_59 : decode cX7_advance 59 = .ok (.iconst 0, 1) := by decide +kernel
theorem dX7_advance_60 : decode cX7_advance 60 = .ok (.putfield 31, 3) := by decide +kernel
theorem dX7_advance_63 : decode cX7_advance 63 = .ok (.aload_n 0, 1) := by decide +kernel
theorem dX7_advance_64 : decode cX7_advance 64 = .ok (.getfield 22, 3) := by decide +kernel
theorem dX7_advance_67 : decode cX7_advance 67 = .ok (.istore_n 1, 1) := by decide +kernel
theorem dX7_advance_68 : decode cX7_advance 68 = .ok (.iload_n 1, 1) := by decide +kernel
theorem dX7_advance_69 : decode cX7_advance 69 = .ok (.aload_n 0, 1) := by decide +kernel
theorem dX7_advance_70 : decode cX7_advance 70 = .ok (.getfield 19, 3) := by decide +kernel
theorem dX7_advance_73 : decode cX7_advance 73 = .ok (.if_icmp .ge 62, 3) := by decide +kernel
theorem dX7_advance_76 : decode cX7_advance 76 = .ok (.aload_n 0, 1) := by decide +kernel
theorem dX7_advance_77 : decode cX7_advance 77 = .ok (.getfield 9, 3) := by decide +kernel
theorem dX7_advance_80 : decode cX7_advance 80 = .ok (.iload_n 1, 1) := by decide +kernel
theorem dX7_advance_81 : decode cX7_advance 81 = .ok (.iaload, 1) := by decide +kernel
theorem dX7_advance_82 : decode cX7_advance 82 = .ok (.bipush 48, 2) := by decide +kernel
theorem dX7_advance_84 : decode cX7_advance 84 = .ok (.if_icmp .lt 51, 3) := by decide +kernel
theorem dX7_advance_87 : decode cX7_advance 87 = .ok (.aload_n 0, 1) := by decide +kernel
theorem dX7_advance_88 : decode cX7_advance 88 = .ok (.getfield 9, 3) := by decide +kernel
theorem dX7_advance_91 : decode cX7_advance 91 = .ok (.iload_n 1, 1) := by decide +kernel
theorem dX7_advance_92 : decode cX7_advance 92 = .ok (.iaload, 1) := by decide +kernel
theorem dX7_advance_93 : decode cX7_advance 93 = .ok (.bipush 57, 2) := by decide +kernel
theorem dX7_advance_95 : decode cX7_advance 95 = .ok (.if_icmp .gt 40, 3) := by decide +kernel
theorem dX7_advance_98 : decode cX7_advance 98 = .ok (.aload_n 0, 1) := by decide +kernel
theorem dX7_advance_99 : decode cX7_advance 99 = .ok (.aload_n 0, 1) := by decide +kernel
theorem dX7_advance_100 : decode cX7_advance 100 = .ok (.getfield 31, 3) := by decide +kernel
theorem dX7_advance_103 : decode cX7_advance 103 = .ok (.bipush 10, 2) := by decide +kernel
theorem dX7_advance_105 : decode cX7_advance 105 = .ok (.imul, 1) := by decide +kernel
theorem dX7_advance_106 : decode cX7_advance 106 = .ok (.aload_n 0, 1) := by decide +kernel
theorem dX7_advance_107 : decode cX7_advance 107 = .ok (.getfield 9, 3) := by decide +kernel
theorem dX7_advance_110 : decode cX7_advance 110 = .ok (.iload_n 1, 1) := by decide +kernel
theorem dX7_advance_111 : decode cX7_advance 111 = .ok (.iaload, 1) := by decide +kernel
theorem dX7_advance_112 : decode cX7_advance 112 = .ok (.iadd, 1) := by decide +kernel
theorem dX7_advance_113 : decode cX7_advance 113 = .ok (.bipush 48, 2) := by decide +kernel
theorem dX7_advance_115 : decode cX7_advance 115 = .ok (.isub, 1) := by decide +kernel
theorem dX7_advance_116 : decode cX7_advance 116 = .ok (.putfield 31, 3) := by decide +kernel
theorem dX7_advance_119 : decode cX7_advance 119 = .ok (.aload_n 0, 1) := by decide +kernel
theorem dX7_advance_120 : decode cX7_advance 120 = .ok (.dup, 1) := by decide +kernel
theorem dX7_advance_121 : decode cX7_advance 121 = .ok (.getfield 25, 3) := by decide +kernel
theorem dX7_advance_124 : decode cX7_advance 124 = .ok (.iconst 1, 1) := by decide +kernel
theorem dX7_advance_125 : decode cX7_advance 125 = .ok (.iadd, 1) := by decide +kernel
theorem dX7_advance_126 : decode cX7_advance 126 = .ok (.putfield 25, 3) := by decide +kernel
theorem dX7_advance_129 : decode cX7_advance 129 = .ok (.iinc 1 1, 3) := by decide +kernel
theorem dX7_advance_132 : decode cX7_advance 132 = .ok (.goto (-64), 3) := by decide +kernel
theorem dX7_advance_135 : decode cX7_advance 135 = .ok (.aload_n 0, 1) := by decide +kernel
theorem dX7_advance_136 : decode cX7_advance 136 = .ok (.getfield 25, 3) := by decide +kernel
theorem dX7_advance_139 : decode cX7_advance 139 = .ok (.ifCond .eq 11, 3) := by decide +kernel
theorem dX7_advance_142 : decode cX7_advance 142 = .ok (.aload_n 0, 1) := by decide +kernel
theorem dX7_advance_143 : decode cX7_advance 143 = .ok (.getfield 25, 3) := by decide +kernel
theorem dX7_advance_146 : decode cX7_advance 146 = .ok (.iconst 3, 1) := by decide +kernel
theorem dX7_advance_147 : decode cX7_advance 147 = .ok (.if_icmp .le 8, 3) := by decide +kernel
theorem dX7_advance_150 : decode cX7_advance 150 = .ok (.aload_n 0, 1) := by decide +kernel
theorem dX7_advance_151 : decode cX7_advance 151 = .ok (.iconst (-1), 1) := by decide +kernel
theorem dX7_advance_152 : decode cX7_advance 152 = .ok (.putfield 31, 3) := by decide +kernel
theorem dX7_advance_155 : decode cX7_advance 155 = .ok (.aload_n 0, 1) := by decide +kernel
theorem dX7_advance_156 : decode cX7_advance 156 = .ok (.getfield 25, 3) := by decide +kernel
theorem dX7_advance_159 : decode cX7_advance 159 = .ok (.ifCond .ne 54, 3) := by decide +kernel
theorem dX7_advance_162 : decode cX7_advance 162 = .ok (.aload_n 0, 1) := by decide +kernel
theorem dX7_advance_163 : decode cX7_advance 163 = .ok (.getfield 22, 3) := by decide +kernel
theorem dX7_advance_166 : decode cX7_advance 166 = .ok (.istore_n 1, 1) := by decide +kernel
theorem dX7_advance_167 : decode cX7_advance 167 = .ok (.iload_n 1, 1) := by decide +kernel
theorem dX7_advance_168 : decode cX7_advance 168 = .ok (.aload_n 0, 1) := by decide +kernel
theorem dX7_advance_169 : decode cX7_advance 169 = .ok (.getfield 19, 3) := by decide +kernel
theorem dX7_advance_172 : decode cX7_advance 172 = .ok (.if_icmp .ge 41, 3) := by decide +kernel
theorem dX7_advance_175 : decode cX7_advance 175 = .ok (.aload_n 0, 1) := by decide +kernel
theorem dX7_advance_176 : decode cX7_advance 176 = .ok (.getfield 9, 3) := by decide +kernel
theorem dX7_advance_179 : decode cX7_advance 179 = .ok (.iload_n 1, 1) := by decide +kernel
theorem dX7_advance_180 : decode cX7_advance 180 = .ok (.iaload, 1) := by decide +kernel
theorem dX7_advance_181 : decode cX7_advance 181 = .ok (.bipush 97, 2) := by decide +kernel
theorem dX7_advance_183 : decode cX7_advance 183 = .ok (.if_icmp .lt 30, 3) := by decide +kernel
theorem dX7_advance_186 : decode cX7_advance 186 = .ok (.aload_n 0, 1) := by decide +kernel
theorem dX7_advance_187 : decode cX7_advance 187 = .ok (.getfield 9, 3) := by decide +kernel
theorem dX7_advance_190 : decode cX7_advance 190 = .ok (.iload_n 1, 1) := by decide +kernel
theorem dX7_advance_191 : decode cX7_advance 191 = .ok (.iaload, 1) := by decide +kernel
theorem dX7_advance_192 : decode cX7_advance 192 = .ok (.bipush 122, 2) := by decide +kernel
theorem dX7_advance_194 : decode cX7_advance 194 = .ok (.if_icmp .gt 19, 3) := by decide +kernel
theorem dX7_advance_197 : decode cX7_advance 197 = .ok (.aload_n 0, 1) := by decide +kernel
theorem dX7_advance_198 : decode cX7_advance 198 = .ok (.dup, 1) := by decide +kernel
theorem dX7_advance_199 : decode cX7_advance 199 = .ok (.getfield 25, 3) := by decide +kernel
theorem dX7_advance_202 : decode cX7_advance 202 = .ok (.iconst 1, 1) := by decide +kernel
theorem dX7_advance_203 : decode cX7_advance 203 = .ok (.iadd, 1) := by decide +kernel
theorem dX7_advance_204 : decode cX7_advance 204 = .ok (.putfield 25, 3) := by decide +kernel
theorem dX7_advance_207 : decode cX7_advance 207 = .ok (.iinc 1 1, 3) := by decide +kernel
theorem dX7_advance_210 : decode cX7_advance 210 = .ok (.goto (-43), 3) := by decide +kernel
theorem dX7_advance_213 : decode cX7_advance 213 = .ok (.aload_n 0, 1) := by decide +kernel
theorem dX7_advance_214 : decode cX7_advance 214 = .ok (.getfield 25, 3) := by decide +kernel
theorem dX7_advance_217 : decode cX7_advance 217 = .ok (.ifCond .ne 19, 3) := by decide +kernel
theorem dX7_advance_220 : decode cX7_advance 220 = .ok (.aload_n 0, 1) := by decide +kernel
theorem dX7_advance_221 : decode cX7_advance 221 = .ok (.getfield 22, 3) := by decide +kernel
theorem dX7_advance_224 : decode cX7_advance 224 = .ok (.aload_n 0, 1) := by decide +kernel
theorem dX7_advance_225 : decode cX7_advance 225 = .ok (.getfield 19, 3) := by decide +kernel
theorem dX7_advance_228 : decode cX7_advance 228 = .ok (.if_icmp .ge 8, 3) := by decide +kernel
theorem dX7_advance_231 : decode cX7_advance 231 = .ok (.aload_n 0, 1) := by decide +kernel
theorem dX7_advance_232 : decode cX7_advance 232 = .ok (.iconst 1, 1) := by decide +kernel
theorem dX7_advance_233 : decode cX7_advance 233 = .ok (.putfield 25, 3) := by decide +kernel
theorem dX7_advance_236 : decode cX7_advance 236 = .ok (.return_, 1) := by decide +kernel
theorem lf_RX7_22 : gLf RX7 22 7 3 := ⟨(RX7, TX7, 6), rfl, by decide, wA_t (wt1 (List.mem_of_getElem? (i := 47) (by decide +kernel))) (by decide +kernel), rfl⟩
theorem lf_RX7_25 : gLf RX7 25 7 4 := ⟨(RX7, TX7, 6), rfl, by decide, wA_t (wt1 (List.mem_of_getElem? (i := 49) (by decide +kernel))) (by decide +kernel), rfl⟩
theorem lp_RX7_22 : gLp RX7 22 7 3 := ⟨(RX7, TX7, 6), rfl, by decide, wA_t (wt1 (List.mem_of_getElem? (i := 47) (by decide +kernel))) (by decide +kernel), rfl, rfl⟩
theorem lf_RX7_19 : gLf RX7 19 7 1 := ⟨(RX7, TX7, 6), rfl, by decide, wA_t (wt1 (List.mem_of_getElem? (i := 44) (by decide +kernel))) (by decide +kernel), rfl⟩
theorem lf_RX7_9 : gLf RX7 9 7 0 := ⟨(RX7, TX7, 6), rfl, by decide, wA_t (wt1 (List.mem_of_getElem? (i := 42) (by decide +kernel))) (by decide +kernel), rfl⟩
theorem lp_RX7_25 : gLp RX7 25 7 4 := ⟨(RX7, TX7, 6), rfl, by decide, wA_t (wt1 (List.mem_of_getElem? (i := 49) (by decide +kernel))) (by decide +kernel), rfl, rfl⟩
theorem lp_RX7_31 : gLp RX7 31 7 5 := ⟨(RX7, TX7, 6), rfl, by decide, wA_t (wt1 (List.mem_of_getElem? (i := 50) (by decide +kernel))) (by decide +kernel), rfl, rfl⟩
theorem lf_RX7_31 : gLf RX7 31 7 5 := ⟨(RX7, TX7, 6), rfl, by decide, wA_t (wt1 (List.mem_of_getElem? (i := 50) (by decide +kernel))) (by decide +kernel), rfl⟩
def rm_X7_advance : Room := { frames := 0, cells := 0, slots := 0, locals := 0 }
def b_X7_advance_18 (τ : gτ) (n : Nat) (x0 : Nat) (x1 : Int32) (G : gG) : Option ((Int32 × gG) ⊕ ((gG))) :=
  if (gi G 7 1 x0) ≤ x1 then (some (.inr G))
  else ((gr G 7 0 x0).bind fun a3 =>
  gchk (gIn x1 (gn τ a3)) <|
  if (ge G a3 (Int32.toNatClampNeg x1)) = (32 : Int32) then (gLet (gsi G 7 3 x0 ((gi G 7 3 x0) + (1 : Int32))) fun G4 =>
  gLet (x1 + 1) fun v5 =>
  some (.inl (v5, G4)))
  else (some (.inr G)))
def l_X7_advance_18 (τ : gτ) (n : Nat) (x0 : Nat) (x1 : Int32) (G : gG) : Option ((gG)) :=
  gIter (fun (q : Int32 × gG) => b_X7_advance_18 τ n x0 q.1 q.2) n (x1, G)
def b_X7_advance_68 (τ : gτ) (n : Nat) (x0 : Nat) (x1 : Int32) (G : gG) : Option ((Int32 × gG) ⊕ ((gG))) :=
  if (gi G 7 1 x0) ≤ x1 then (some (.inr G))
  else ((gr G 7 0 x0).bind fun a10 =>
  gchk (gIn x1 (gn τ a10)) <|
  if (ge G a10 (Int32.toNatClampNeg x1)) < (48 : Int32) then (some (.inr G))
  else ((gr G 7 0 x0).bind fun a11 =>
  gchk (gIn x1 (gn τ a11)) <|
  if (57 : Int32) < (ge G a11 (Int32.toNatClampNeg x1)) then (some (.inr G))
  else ((gr G 7 0 x0).bind fun a12 =>
  gchk (gIn x1 (gn τ a12)) <|
  gLet (gsi G 7 5 x0 ((((gi G 7 5 x0) * (10 : Int32)) + (ge G a12 (Int32.toNatClampNeg x1))) - (48 : Int32))) fun G13 =>
  gLet (gsi G13 7 4 x0 ((gi G13 7 4 x0) + (1 : Int32))) fun G14 =>
  gLet (x1 + 1) fun v15 =>
  some (.inl (v15, G14)))))
def l_X7_advance_68 (τ : gτ) (n : Nat) (x0 : Nat) (x1 : Int32) (G : gG) : Option ((gG)) :=
  gIter (fun (q : Int32 × gG) => b_X7_advance_68 τ n x0 q.1 q.2) n (x1, G)
def b_X7_advance_167 (τ : gτ) (n : Nat) (x0 : Nat) (x1 : Int32) (G : gG) : Option ((Int32 × gG) ⊕ ((gG))) :=
  if (gi G 7 1 x0) ≤ x1 then (some (.inr G))
  else ((gr G 7 0 x0).bind fun a19 =>
  gchk (gIn x1 (gn τ a19)) <|
  if (ge G a19 (Int32.toNatClampNeg x1)) < (97 : Int32) then (some (.inr G))
  else ((gr G 7 0 x0).bind fun a20 =>
  gchk (gIn x1 (gn τ a20)) <|
  if (122 : Int32) < (ge G a20 (Int32.toNatClampNeg x1)) then (some (.inr G))
  else (gLet (gsi G 7 4 x0 ((gi G 7 4 x0) + (1 : Int32))) fun G21 =>
  gLet (x1 + 1) fun v22 =>
  some (.inl (v22, G21)))))
def l_X7_advance_167 (τ : gτ) (n : Nat) (x0 : Nat) (x1 : Int32) (G : gG) : Option ((gG)) :=
  gIter (fun (q : Int32 × gG) => b_X7_advance_167 τ n x0 q.1 q.2) n (x1, G)
def k_X7_advance_213 (τ : gτ) (n : Nat) (x0 : Nat)  (G : gG) : Option (gG) :=
  if (gi G 7 4 x0) = 0 then (if (gi G 7 1 x0) ≤ (gi G 7 3 x0) then (some G)
  else (gLet (gsi G 7 4 x0 (1 : Int32)) fun G24 =>
  some G24))
  else (some G)
def k_X7_advance_155 (τ : gτ) (n : Nat) (x0 : Nat)  (G : gG) : Option (gG) :=
  if (gi G 7 4 x0) = 0 then (gLet (gi G 7 3 x0) fun v18 =>
  (l_X7_advance_167 τ n x0 v18 G).bind fun q => gLet q fun G23 => 
  k_X7_advance_213 τ n x0  G23)
  else (k_X7_advance_213 τ n x0  G)
def k_X7_advance_150 (τ : gτ) (n : Nat) (x0 : Nat)  (G : gG) : Option (gG) :=
  gLet (gsi G 7 5 x0 (-1 : Int32)) fun G17 =>
  k_X7_advance_155 τ n x0  G17
def k_X7_advance_135 (τ : gτ) (n : Nat) (x0 : Nat)  (G : gG) : Option (gG) :=
  if (gi G 7 4 x0) = 0 then (k_X7_advance_150 τ n x0  G)
  else (if (gi G 7 4 x0) ≤ (3 : Int32) then (k_X7_advance_155 τ n x0  G)
  else (k_X7_advance_150 τ n x0  G))
def k_X7_advance_53 (τ : gτ) (n : Nat) (x0 : Nat)  (G : gG) : Option (gG) :=
  gLet (gsi G 7 4 x0 (0 : Int32)) fun G7 =>
  gLet (gsi G7 7 5 x0 (0 : Int32)) fun G8 =>
  gLet (gi G8 7 3 x0) fun v9 =>
  (l_X7_advance_68 τ n x0 v9 G8).bind fun q => gLet q fun G16 => 
  k_X7_advance_135 τ n x0  G16
def f_X7_advance (τ : gτ) (n : Nat) (x0 : Nat) (G : gG) : Option (gG) :=
  gLet (gsi G 7 3 x0 ((gi G 7 3 x0) + (gi G 7 4 x0))) fun G1 =>
  gLet (gi G1 7 3 x0) fun v2 =>
  (l_X7_advance_18 τ n x0 v2 G1).bind fun q => gLet q fun G6 => 
  k_X7_advance_53 τ n x0  G6
set_option maxHeartbeats 4000000 in
set_option maxRecDepth 100000 in
theorem w_b_X7_advance_18 {X : gX} {τ : gτ} {p : Program} {l : Launch} {e : Env} {s : State} {m : MethodId} {args : Array Value} {below : List Frame} {meth : Method} {c : Code} (fx : gFx X p s m args meth c cX7_advance 2 RX7) (n : Nat) (x0 : Nat) (x1 : Int32) (h0 : gK τ x0 7) {Q : State → Prop} {K : ((Int32 × gG) ⊕ ((gG))) → Prop} {G : gG} {H : Heap} {locs : List Loc} {ls : Array Slot} (hw : gHw X τ G H locs) (hl : lv_has ls 2 [(0, .ref x0), (1, .int x1)]) (hok : gOk (b_X7_advance_18 τ n x0 x1 G) K) (hc : ∀ (y1 : Int32) (G : gG) (H : Heap) (locs : List Loc) (ls : Array Slot), gHw X τ G H locs → lv_has ls 2 [(0, .ref x0), (1, .int y1)] → K (.inl (y1, G)) → W p l e rm_X7_advance s m args below meth c H locs 0 0 Q (F0 m 18 ls [])) (hx0 : ∀ (G : gG) (H : Heap) (locs : List Loc) (ls : Array Slot), gHw X τ G H locs → lv_has ls 2 [(0, .ref x0)] → K (.inr G) → W p l e rm_X7_advance s m args below meth c H locs 0 0 Q (F0 m 53 ls [])) : W p l e rm_X7_advance s m args below meth c H locs 0 0 Q (F0 m 18 ls []) := by
  unfold b_X7_advance_18 at hok
  refine lv_iload_n fx.1 fx.2.1 dX7_advance_18 rfl (lv_at hl 1 rfl) ?_
  refine lv_aload_n fx.1 fx.2.1 dX7_advance_19 rfl (lv_at hl 0 rfl) ?_
  refine g_geti fx hw h0 lf_RX7_19 rfl dX7_advance_20 ?_
  refine g_icmp_ge (tgt := 53) fx dX7_advance_23 (by decide) hok (fun hok => ?_) (fun hok => ?_)
  · exact hx0  G _ _ _  hw (lv_sub hl [0] rfl) (gOk_some hok)
  · refine lv_aload_n fx.1 fx.2.1 dX7_advance_26 rfl (lv_at hl 0 rfl) ?_
    refine g_getr fx hw h0 lf_RX7_9 rfl dX7_advance_27 hok (fun a3 h_a3 hok => ?_)
    refine lv_iload_n fx.1 fx.2.1 dX7_advance_30 rfl (lv_at hl 1 rfl) ?_
    refine g_iald fx hw h_a3 dX7_advance_31 hok (fun hok => ?_)
    refine lv_bipush (v := 32) fx.1 fx.2.1 dX7_advance_32 (by decide) ?_
    refine g_icmp_ne (tgt := 53) fx dX7_advance_34 (by decide) hok (fun hok => ?_) (fun hok => ?_)
    · refine lv_aload_n fx.1 fx.2.1 dX7_advance_37 rfl (lv_at hl 0 rfl) ?_
      refine lv_dup fx.1 fx.2.1 dX7_advance_38 rfl ?_
      refine g_geti fx hw h0 lf_RX7_22 rfl dX7_advance_39 ?_
      refine lv_iconst (v := 1) fx.1 fx.2.1 dX7_advance_42 (by decide) ?_
      refine lv_iadd fx.1 fx.2.1 dX7_advance_43 ?_
      refine g_puti fx hw h0 lp_RX7_22 rfl rfl dX7_advance_44 hok (fun G4 H locs hw hok => ?_)
      obtain ⟨v5, e_v5, hok⟩ := gOk_let hok
      refine lv_iinc (v := v5) (lv' := [(1, .int v5), (0, .ref x0)]) fx.1 fx.2.1 dX7_advance_47 hl (k := 1) rfl (by rw [e_v5]; rfl) (by decide) rfl (fun ls hl => ?_)
      refine lv_goto (tgt := 18) fx.1 fx.2.1 dX7_advance_50 (by decide) ?_
      exact hc v5 G4 _ _ _  hw (lv_sub hl [1, 0] rfl) (gOk_some hok)
    · exact hx0  G _ _ _  hw (lv_sub hl [0] rfl) (gOk_some hok)
theorem w_l_X7_advance_18 {X : gX} {τ : gτ} {p : Program} {l : Launch} {e : Env} {s : State} {m : MethodId} {args : Array Value} {below : List Frame} {meth : Method} {c : Code} (fx : gFx X p s m args meth c cX7_advance 2 RX7) (n : Nat) (x0 : Nat) (h0 : gK τ x0 7) {Q : State → Prop} {K : ((gG)) → Prop} (hx0 : ∀ (G : gG) (H : Heap) (locs : List Loc) (ls : Array Slot), gHw X τ G H locs → lv_has ls 2 [(0, .ref x0)] → K G → W p l e rm_X7_advance s m args below meth c H locs 0 0 Q (F0 m 53 ls [])) : ∀ (k : Nat) (x1 : Int32) (G : gG) (H : Heap) (locs : List Loc) (ls : Array Slot), gHw X τ G H locs → lv_has ls 2 [(0, .ref x0), (1, .int x1)] → gOk (gIter (fun (q : Int32 × gG) => b_X7_advance_18 τ n x0 q.1 q.2) k (x1, G)) K → W p l e rm_X7_advance s m args below meth c H locs 0 0 Q (F0 m 18 ls []) := by
  intro k
  induction k with
  | zero =>
    intro x1 G H locs ls hw hl hok
    exact gOk_iter0 hok
  | succ k hc =>
    intro x1 G H locs ls hw hl hok
    exact w_b_X7_advance_18 fx n x0 x1 h0 hw hl (gOk_iter hok) hc hx0
set_option maxHeartbeats 4000000 in
set_option maxRecDepth 100000 in
theorem w_b_X7_advance_68 {X : gX} {τ : gτ} {p : Program} {l : Launch} {e : Env} {s : State} {m : MethodId} {args : Array Value} {below : List Frame} {meth : Method} {c : Code} (fx : gFx X p s m args meth c cX7_advance 2 RX7) (n : Nat) (x0 : Nat) (x1 : Int32) (h0 : gK τ x0 7) {Q : State → Prop} {K : ((Int32 × gG) ⊕ ((gG))) → Prop} {G : gG} {H : Heap} {locs : List Loc} {ls : Array Slot} (hw : gHw X τ G H locs) (hl : lv_has ls 2 [(0, .ref x0), (1, .int x1)]) (hok : gOk (b_X7_advance_68 τ n x0 x1 G) K) (hc : ∀ (y1 : Int32) (G : gG) (H : Heap) (locs : List Loc) (ls : Array Slot), gHw X τ G H locs → lv_has ls 2 [(0, .ref x0), (1, .int y1)] → K (.inl (y1, G)) → W p l e rm_X7_advance s m args below meth c H locs 0 0 Q (F0 m 68 ls [])) (hx0 : ∀ (G : gG) (H : Heap) (locs : List Loc) (ls : Array Slot), gHw X τ G H locs → lv_has ls 2 [(0, .ref x0)] → K (.inr G) → W p l e rm_X7_advance s m args below meth c H locs 0 0 Q (F0 m 135 ls [])) : W p l e rm_X7_advance s m args below meth c H locs 0 0 Q (F0 m 68 ls []) := by
  unfold b_X7_advance_68 at hok
  refine lv_iload_n fx.1 fx.2.1 dX7_advance_68 rfl (lv_at hl 1 rfl) ?_
  refine lv_aload_n fx.1 fx.2.1 dX7_advance_69 rfl (lv_at hl 0 rfl) ?_
  refine g_geti fx hw h0 lf_RX7_19 rfl dX7_advance_70 ?_
  refine g_icmp_ge (tgt := 135) fx dX7_advance_73 (by decide) hok (fun hok => ?_) (fun hok => ?_)
  · exact hx0  G _ _ _  hw (lv_sub hl [0] rfl) (gOk_some hok)
  · refine lv_aload_n fx.1 fx.2.1 dX7_advance_76 rfl (lv_at hl 0 rfl) ?_
    refine g_getr fx hw h0 lf_RX7_9 rfl dX7_advance_77 hok (fun a10 h_a10 hok => ?_)
    refine lv_iload_n fx.1 fx.2.1 dX7_advance_80 rfl (lv_at hl 1 rfl) ?_
    refine g_iald fx hw h_a10 dX7_advance_81 hok (fun hok => ?_)
    refine lv_bipush (v := 48) fx.1 fx.2.1 dX7_advance_82 (by decide) ?_
    refine g_icmp_lt (tgt := 135) fx dX7_advance_84 (by decide) hok (fun hok => ?_) (fun hok => ?_)
    · exact hx0  G _ _ _  hw (lv_sub hl [0] rfl) (gOk_some hok)
    · refine lv_aload_n fx.1 fx.2.1 dX7_advance_87 rfl (lv_at hl 0 rfl) ?_
      refine g_getr fx hw h0 lf_RX7_9 rfl dX7_advance_88 hok (fun a11 h_a11 hok => ?_)
      refine lv_iload_n fx.1 fx.2.1 dX7_advance_91 rfl (lv_at hl 1 rfl) ?_
      refine g_iald fx hw h_a11 dX7_advance_92 hok (fun hok => ?_)
      refine lv_bipush (v := 57) fx.1 fx.2.1 dX7_advance_93 (by decide) ?_
      refine g_icmp_gt (tgt := 135) fx dX7_advance_95 (by decide) hok (fun hok => ?_) (fun hok => ?_)
      · exact hx0  G _ _ _  hw (lv_sub hl [0] rfl) (gOk_some hok)
      · refine lv_aload_n fx.1 fx.2.1 dX7_advance_98 rfl (lv_at hl 0 rfl) ?_
        refine lv_aload_n fx.1 fx.2.1 dX7_advance_99 rfl (lv_at hl 0 rfl) ?_
        refine g_geti fx hw h0 lf_RX7_31 rfl dX7_advance_100 ?_
        refine lv_bipush (v := 10) fx.1 fx.2.1 dX7_advance_103 (by decide) ?_
        refine lv_imul fx.1 fx.2.1 dX7_advance_105 ?_
        refine lv_aload_n fx.1 fx.2.1 dX7_advance_106 rfl (lv_at hl 0 rfl) ?_
        refine g_getr fx hw h0 lf_RX7_9 rfl dX7_advance_107 hok (fun a12 h_a12 hok => ?_)
        refine lv_iload_n fx.1 fx.2.1 dX7_advance_110 rfl (lv_at hl 1 rfl) ?_
        refine g_iald fx hw h_a12 dX7_advance_111 hok (fun hok => ?_)
        refine lv_iadd fx.1 fx.2.1 dX7_advance_112 ?_
        refine lv_bipush (v := 48) fx.1 fx.2.1 dX7_advance_113 (by decide) ?_
        refine lv_isub fx.1 fx.2.1 dX7_advance_115 ?_
        refine g_puti fx hw h0 lp_RX7_31 rfl rfl dX7_advance_116 hok (fun G13 H locs hw hok => ?_)
        refine lv_aload_n fx.1 fx.2.1 dX7_advance_119 rfl (lv_at hl 0 rfl) ?_
        refine lv_dup fx.1 fx.2.1 dX7_advance_120 rfl ?_
        refine g_geti fx hw h0 lf_RX7_25 rfl dX7_advance_121 ?_
        refine lv_iconst (v := 1) fx.1 fx.2.1 dX7_advance_124 (by decide) ?_
        refine lv_iadd fx.1 fx.2.1 dX7_advance_125 ?_
        refine g_puti fx hw h0 lp_RX7_25 rfl rfl dX7_advance_126 hok (fun G14 H locs hw hok => ?_)
        obtain ⟨v15, e_v15, hok⟩ := gOk_let hok
        refine lv_iinc (v := v15) (lv' := [(1, .int v15), (0, .ref x0)]) fx.1 fx.2.1 dX7_advance_129 hl (k := 1) rfl (by rw [e_v15]; rfl) (by decide) rfl (fun ls hl => ?_)
        refine lv_goto (tgt := 68) fx.1 fx.2.1 dX7_advance_132 (by decide) ?_
        exact hc v15 G14 _ _ _  hw (lv_sub hl [1, 0] rfl) (gOk_some hok)
theorem w_l_X7_advance_68 {X : gX} {τ : gτ} {p : Program} {l : Launch} {e : Env} {s : State} {m : MethodId} {args : Array Value} {below : List Frame} {meth : Method} {c : Code} (fx : gFx X p s m args meth c cX7_advance 2 RX7) (n : Nat) (x0 : Nat) (h0 : gK τ x0 7) {Q : State → Prop} {K : ((gG)) → Prop} (hx0 : ∀ (G : gG) (H : Heap) (locs : List Loc) (ls : Array Slot), gHw X τ G H locs → lv_has ls 2 [(0, .ref x0)] → K G → W p l e rm_X7_advance s m args below meth c H locs 0 0 Q (F0 m 135 ls [])) : ∀ (k : Nat) (x1 : Int32) (G : gG) (H : Heap) (locs : List Loc) (ls : Array Slot), gHw X τ G H locs → lv_has ls 2 [(0, .ref x0), (1, .int x1)] → gOk (gIter (fun (q : Int32 × gG) => b_X7_advance_68 τ n x0 q.1 q.2) k (x1, G)) K → W p l e rm_X7_advance s m args below meth c H locs 0 0 Q (F0 m 68 ls []) := by
  intro k
  induction k with
  | zero =>
    intro x1 G H locs ls hw hl hok
    exact gOk_iter0 hok
  | succ k hc =>
    intro x1 G H locs ls hw hl hok
    exact w_b_X7_advance_68 fx n x0 x1 h0 hw hl (gOk_iter hok) hc hx0
set_option maxHeartbeats 4000000 in
set_option maxRecDepth 100000 in
theorem w_b_X7_advance_167 {X : gX} {τ : gτ} {p : Program} {l : Launch} {e : Env} {s : State} {m : MethodId} {args : Array Value} {below : List Frame} {meth : Method} {c : Code} (fx : gFx X p s m args meth c cX7_advance 2 RX7) (n : Nat) (x0 : Nat) (x1 : Int32) (h0 : gK τ x0 7) {Q : State → Prop} {K : ((Int32 × gG) ⊕ ((gG))) → Prop} {G : gG} {H : Heap} {locs : List Loc} {ls : Array Slot} (hw : gHw X τ G H locs) (hl : lv_has ls 2 [(0, .ref x0), (1, .int x1)]) (hok : gOk (b_X7_advance_167 τ n x0 x1 G) K) (hc : ∀ (y1 : Int32) (G : gG) (H : Heap) (locs : List Loc) (ls : Array Slot), gHw X τ G H locs → lv_has ls 2 [(0, .ref x0), (1, .int y1)] → K (.inl (y1, G)) → W p l e rm_X7_advance s m args below meth c H locs 0 0 Q (F0 m 167 ls [])) (hx0 : ∀ (G : gG) (H : Heap) (locs : List Loc) (ls : Array Slot), gHw X τ G H locs → lv_has ls 2 [(0, .ref x0)] → K (.inr G) → W p l e rm_X7_advance s m args below meth c H locs 0 0 Q (F0 m 213 ls [])) : W p l e rm_X7_advance s m args below meth c H locs 0 0 Q (F0 m 167 ls []) := by
  unfold b_X7_advance_167 at hok
  refine lv_iload_n fx.1 fx.2.1 dX7_advance_167 rfl (lv_at hl 1 rfl) ?_
  refine lv_aload_n fx.1 fx.2.1 dX7_advance_168 rfl (lv_at hl 0 rfl) ?_
  refine g_geti fx hw h0 lf_RX7_19 rfl dX7_advance_169 ?_
  refine g_icmp_ge (tgt := 213) fx dX7_advance_172 (by decide) hok (fun hok => ?_) (fun hok => ?_)
  · exact hx0  G _ _ _  hw (lv_sub hl [0] rfl) (gOk_some hok)
  · refine lv_aload_n fx.1 fx.2.1 dX7_advance_175 rfl (lv_at hl 0 rfl) ?_
    refine g_getr fx hw h0 lf_RX7_9 rfl dX7_advance_176 hok (fun a19 h_a19 hok => ?_)
    refine lv_iload_n fx.1 fx.2.1 dX7_advance_179 rfl (lv_at hl 1 rfl) ?_
    refine g_iald fx hw h_a19 dX7_advance_180 hok (fun hok => ?_)
    refine lv_bipush (v := 97) fx.1 fx.2.1 dX7_advance_181 (by decide) ?_
    refine g_icmp_lt (tgt := 213) fx dX7_advance_183 (by decide) hok (fun hok => ?_) (fun hok => ?_)
    · exact hx0  G _ _ _  hw (lv_sub hl [0] rfl) (gOk_some hok)
    · refine lv_aload_n fx.1 fx.2.1 dX7_advance_186 rfl (lv_at hl 0 rfl) ?_
      refine g_getr fx hw h0 lf_RX7_9 rfl dX7_advance_187 hok (fun a20 h_a20 hok => ?_)
      refine lv_iload_n fx.1 fx.2.1 dX7_advance_190 rfl (lv_at hl 1 rfl) ?_
      refine g_iald fx hw h_a20 dX7_advance_191 hok (fun hok => ?_)
      refine lv_bipush (v := 122) fx.1 fx.2.1 dX7_advance_192 (by decide) ?_
      refine g_icmp_gt (tgt := 213) fx dX7_advance_194 (by decide) hok (fun hok => ?_) (fun hok => ?_)
      · exact hx0  G _ _ _  hw (lv_sub hl [0] rfl) (gOk_some hok)
      · refine lv_aload_n fx.1 fx.2.1 dX7_advance_197 rfl (lv_at hl 0 rfl) ?_
        refine lv_dup fx.1 fx.2.1 dX7_advance_198 rfl ?_
        refine g_geti fx hw h0 lf_RX7_25 rfl dX7_advance_199 ?_
        refine lv_iconst (v := 1) fx.1 fx.2.1 dX7_advance_202 (by decide) ?_
        refine lv_iadd fx.1 fx.2.1 dX7_advance_203 ?_
        refine g_puti fx hw h0 lp_RX7_25 rfl rfl dX7_advance_204 hok (fun G21 H locs hw hok => ?_)
        obtain ⟨v22, e_v22, hok⟩ := gOk_let hok
        refine lv_iinc (v := v22) (lv' := [(1, .int v22), (0, .ref x0)]) fx.1 fx.2.1 dX7_advance_207 hl (k := 1) rfl (by rw [e_v22]; rfl) (by decide) rfl (fun ls hl => ?_)
        refine lv_goto (tgt := 167) fx.1 fx.2.1 dX7_advance_210 (by decide) ?_
        exact hc v22 G21 _ _ _  hw (lv_sub hl [1, 0] rfl) (gOk_some hok)
theorem w_l_X7_advance_167 {X : gX} {τ : gτ} {p : Program} {l : Launch} {e : Env} {s : State} {m : MethodId} {args : Array Value} {below : List Frame} {meth : Method} {c : Code} (fx : gFx X p s m args meth c cX7_advance 2 RX7) (n : Nat) (x0 : Nat) (h0 : gK τ x0 7) {Q : State → Prop} {K : ((gG)) → Prop} (hx0 : ∀ (G : gG) (H : Heap) (locs : List Loc) (ls : Array Slot), gHw X τ G H locs → lv_has ls 2 [(0, .ref x0)] → K G → W p l e rm_X7_advance s m args below meth c H locs 0 0 Q (F0 m 213 ls [])) : ∀ (k : Nat) (x1 : Int32) (G : gG) (H : Heap) (locs : List Loc) (ls : Array Slot), gHw X τ G H locs → lv_has ls 2 [(0, .ref x0), (1, .int x1)] → gOk (gIter (fun (q : Int32 × gG) => b_X7_advance_167 τ n x0 q.1 q.2) k (x1, G)) K → W p l e rm_X7_advance s m args below meth c H locs 0 0 Q (F0 m 167 ls []) := by
  intro k
  induction k with
  | zero =>
    intro x1 G H locs ls hw hl hok
    exact gOk_iter0 hok
  | succ k hc =>
    intro x1 G H locs ls hw hl hok
    exact w_b_X7_advance_167 fx n x0 x1 h0 hw hl (gOk_iter hok) hc hx0
set_option maxHeartbeats 4000000 in
set_option maxRecDepth 100000 in
theorem w_X7_advance_213 {X : gX} {τ : gτ} {p : Program} {l : Launch} {e : Env} {s : State} {m : MethodId} {args : Array Value} {below : List Frame} {meth : Method} {c : Code} (fx : gFx X p s m args meth c cX7_advance 2 RX7) (n : Nat) (x0 : Nat)  (h0 : gK τ x0 7)  (hr : meth.sig.returnType = none) {G' : gG} {G : gG} {H : Heap} {locs : List Loc} {ls : Array Slot} (hw : gHw X τ G H locs) (hl : lv_has ls 2 [(0, .ref x0)]) (hok : gOk (k_X7_advance_213 τ n x0  G) (fun q => q = G'))  : W p l e rm_X7_advance s m args below meth c H locs 0 0 (MQ below (gQ X τ none G') args s 0 0 (gFree X)) (F0 m 213 ls []) := by
  unfold k_X7_advance_213 at hok
  refine lv_aload_n fx.1 fx.2.1 dX7_advance_213 rfl (lv_at hl 0 rfl) ?_
  refine g_geti fx hw h0 lf_RX7_25 rfl dX7_advance_214 ?_
  refine g_if_ne (tgt := 236) fx dX7_advance_217 (by decide) hok (fun hok => ?_) (fun hok => ?_)
  · refine lv_aload_n fx.1 fx.2.1 dX7_advance_220 rfl (lv_at hl 0 rfl) ?_
    refine g_geti fx hw h0 lf_RX7_22 rfl dX7_advance_221 ?_
    refine lv_aload_n fx.1 fx.2.1 dX7_advance_224 rfl (lv_at hl 0 rfl) ?_
    refine g_geti fx hw h0 lf_RX7_19 rfl dX7_advance_225 ?_
    refine g_icmp_ge (tgt := 236) fx dX7_advance_228 (by decide) hok (fun hok => ?_) (fun hok => ?_)
    · cases gOk_some hok
      exact g_vret fx hw hr dX7_advance_236
    · refine lv_aload_n fx.1 fx.2.1 dX7_advance_231 rfl (lv_at hl 0 rfl) ?_
      refine lv_iconst (v := 1) fx.1 fx.2.1 dX7_advance_232 (by decide) ?_
      refine g_puti fx hw h0 lp_RX7_25 rfl rfl dX7_advance_233 hok (fun G24 H locs hw hok => ?_)
      cases gOk_some hok
      exact g_vret fx hw hr dX7_advance_236
  · cases gOk_some hok
    exact g_vret fx hw hr dX7_advance_236
set_option maxHeartbeats 4000000 in
set_option maxRecDepth 100000 in
theorem w_X7_advance_155 {X : gX} {τ : gτ} {p : Program} {l : Launch} {e : Env} {s : State} {m : MethodId} {args : Array Value} {below : List Frame} {meth : Method} {c : Code} (fx : gFx X p s m args meth c cX7_advance 2 RX7) (n : Nat) (x0 : Nat)  (h0 : gK τ x0 7)  (hr : meth.sig.returnType = none) {G' : gG} {G : gG} {H : Heap} {locs : List Loc} {ls : Array Slot} (hw : gHw X τ G H locs) (hl : lv_has ls 2 [(0, .ref x0)]) (hok : gOk (k_X7_advance_155 τ n x0  G) (fun q => q = G'))  : W p l e rm_X7_advance s m args below meth c H locs 0 0 (MQ below (gQ X τ none G') args s 0 0 (gFree X)) (F0 m 155 ls []) := by
  unfold k_X7_advance_155 at hok
  refine lv_aload_n fx.1 fx.2.1 dX7_advance_155 rfl (lv_at hl 0 rfl) ?_
  refine g_geti fx hw h0 lf_RX7_25 rfl dX7_advance_156 ?_
  refine g_if_ne (tgt := 213) fx dX7_advance_159 (by decide) hok (fun hok => ?_) (fun hok => ?_)
  · refine lv_aload_n fx.1 fx.2.1 dX7_advance_162 rfl (lv_at hl 0 rfl) ?_
    refine g_geti fx hw h0 lf_RX7_22 rfl dX7_advance_163 ?_
    refine g_leti hok (fun v18 hok => ?_)
    refine lv_istore_n (lv' := [(1, .int v18), (0, .ref x0)]) fx.1 fx.2.1 dX7_advance_166 rfl hl (by decide) rfl (fun ls hl => ?_)
    refine w_l_X7_advance_167 fx n x0 h0 ?_ n v18 G _ _ _  hw (lv_sub hl [1, 0] rfl) (gOk_bindK hok)
    intro G23 H locs ls hw hl hok
    have hok : gOk (ρ := gG) (k_X7_advance_213 τ n x0  G23) _ := hok
    exact w_X7_advance_213 fx n x0  h0  hr hw (lv_sub hl [0] rfl) hok
  · exact w_X7_advance_213 fx n x0  h0  hr hw (lv_sub hl [0] rfl) hok
set_option maxHeartbeats 4000000 in
set_option maxRecDepth 100000 in
theorem w_X7_advance_150 {X : gX} {τ : gτ} {p : Program} {l : Launch} {e : Env} {s : State} {m : MethodId} {args : Array Value} {below : List Frame} {meth : Method} {c : Code} (fx : gFx X p s m args meth c cX7_advance 2 RX7) (n : Nat) (x0 : Nat)  (h0 : gK τ x0 7)  (hr : meth.sig.returnType = none) {G' : gG} {G : gG} {H : Heap} {locs : List Loc} {ls : Array Slot} (hw : gHw X τ G H locs) (hl : lv_has ls 2 [(0, .ref x0)]) (hok : gOk (k_X7_advance_150 τ n x0  G) (fun q => q = G'))  : W p l e rm_X7_advance s m args below meth c H locs 0 0 (MQ below (gQ X τ none G') args s 0 0 (gFree X)) (F0 m 150 ls []) := by
  unfold k_X7_advance_150 at hok
  refine lv_aload_n fx.1 fx.2.1 dX7_advance_150 rfl (lv_at hl 0 rfl) ?_
  refine lv_iconst (v := (-1)) fx.1 fx.2.1 dX7_advance_151 (by decide) ?_
  refine g_puti fx hw h0 lp_RX7_31 rfl rfl dX7_advance_152 hok (fun G17 H locs hw hok => ?_)
  exact w_X7_advance_155 fx n x0  h0  hr hw (lv_sub hl [0] rfl) hok
set_option maxHeartbeats 4000000 in
set_option maxRecDepth 100000 in
theorem w_X7_advance_135 {X : gX} {τ : gτ} {p : Program} {l : Launch} {e : Env} {s : State} {m : MethodId} {args : Array Value} {below : List Frame} {meth : Method} {c : Code} (fx : gFx X p s m args meth c cX7_advance 2 RX7) (n : Nat) (x0 : Nat)  (h0 : gK τ x0 7)  (hr : meth.sig.returnType = none) {G' : gG} {G : gG} {H : Heap} {locs : List Loc} {ls : Array Slot} (hw : gHw X τ G H locs) (hl : lv_has ls 2 [(0, .ref x0)]) (hok : gOk (k_X7_advance_135 τ n x0  G) (fun q => q = G'))  : W p l e rm_X7_advance s m args below meth c H locs 0 0 (MQ below (gQ X τ none G') args s 0 0 (gFree X)) (F0 m 135 ls []) := by
  unfold k_X7_advance_135 at hok
  refine lv_aload_n fx.1 fx.2.1 dX7_advance_135 rfl (lv_at hl 0 rfl) ?_
  refine g_geti fx hw h0 lf_RX7_25 rfl dX7_advance_136 ?_
  refine g_if_eq (tgt := 150) fx dX7_advance_139 (by decide) hok (fun hok => ?_) (fun hok => ?_)
  · exact w_X7_advance_150 fx n x0  h0  hr hw (lv_sub hl [0] rfl) hok
  · refine lv_aload_n fx.1 fx.2.1 dX7_advance_142 rfl (lv_at hl 0 rfl) ?_
    refine g_geti fx hw h0 lf_RX7_25 rfl dX7_advance_143 ?_
    refine lv_iconst (v := 3) fx.1 fx.2.1 dX7_advance_146 (by decide) ?_
    refine g_icmp_le (tgt := 155) fx dX7_advance_147 (by decide) hok (fun hok => ?_) (fun hok => ?_)
    · exact w_X7_advance_155 fx n x0  h0  hr hw (lv_sub hl [0] rfl) hok
    · exact w_X7_advance_150 fx n x0  h0  hr hw (lv_sub hl [0] rfl) hok
set_option maxHeartbeats 4000000 in
set_option maxRecDepth 100000 in
theorem w_X7_advance_53 {X : gX} {τ : gτ} {p : Program} {l : Launch} {e : Env} {s : State} {m : MethodId} {args : Array Value} {below : List Frame} {meth : Method} {c : Code} (fx : gFx X p s m args meth c cX7_advance 2 RX7) (n : Nat) (x0 : Nat)  (h0 : gK τ x0 7)  (hr : meth.sig.returnType = none) {G' : gG} {G : gG} {H : Heap} {locs : List Loc} {ls : Array Slot} (hw : gHw X τ G H locs) (hl : lv_has ls 2 [(0, .ref x0)]) (hok : gOk (k_X7_advance_53 τ n x0  G) (fun q => q = G'))  : W p l e rm_X7_advance s m args below meth c H locs 0 0 (MQ below (gQ X τ none G') args s 0 0 (gFree X)) (F0 m 53 ls []) := by
  unfold k_X7_advance_53 at hok
  refine lv_aload_n fx.1 fx.2.1 dX7_advance_53 rfl (lv_at hl 0 rfl) ?_
  refine lv_iconst (v := 0) fx.1 fx.2.1 dX7_advance_54 (by decide) ?_
  refine g_puti fx hw h0 lp_RX7_25 rfl rfl dX7_advance_55 hok (fun G7 H locs hw hok => ?_)
  refine lv_aload_n fx.1 fx.2.1 dX7_advance_58 rfl (lv_at hl 0 rfl) ?_
  refine lv_iconst (v := 0) fx.1 fx.2.1 dX7_advance_59 (by decide) ?_
  refine g_puti fx hw h0 lp_RX7_31 rfl rfl dX7_advance_60 hok (fun G8 H locs hw hok => ?_)
  refine lv_aload_n fx.1 fx.2.1 dX7_advance_63 rfl (lv_at hl 0 rfl) ?_
  refine g_geti fx hw h0 lf_RX7_22 rfl dX7_advance_64 ?_
  refine g_leti hok (fun v9 hok => ?_)
  refine lv_istore_n (lv' := [(1, .int v9), (0, .ref x0)]) fx.1 fx.2.1 dX7_advance_67 rfl hl (by decide) rfl (fun ls hl => ?_)
  refine w_l_X7_advance_68 fx n x0 h0 ?_ n v9 G8 _ _ _  hw (lv_sub hl [1, 0] rfl) (gOk_bindK hok)
  intro G16 H locs ls hw hl hok
  have hok : gOk (ρ := gG) (k_X7_advance_135 τ n x0  G16) _ := hok
  exact w_X7_advance_135 fx n x0  h0  hr hw (lv_sub hl [0] rfl) hok
set_option maxHeartbeats 4000000 in
set_option maxRecDepth 100000 in
theorem c_X7_advance (l : Launch) (X : gX) (τ : gτ) (n : Nat) (x0 : Nat) (G : gG) (h0 : gK τ x0 7) {G' : gG} (h : f_X7_advance τ n x0 G = some G') : gM l X τ yX7_advance cX7_advance 2 none rm_X7_advance [.ref x0] G none G' := by
  refine g_body (by decide +kernel) (Nat.le_of_ble_eq_true rfl) ?_
  intro p e s m args below meth c ls fx hr hw hl
  have fx : gFx X p s m args meth c cX7_advance 2 RX7 := fx
  have hl : lv_has ls 2 [(0, .ref x0)] := hl
  have hok : gOk (f_X7_advance τ n x0 G) (fun q => q = G') := ⟨_, h, rfl⟩
  unfold f_X7_advance at hok
  show W p l e rm_X7_advance s m args below meth c s.heap [] 0 0 (MQ below (gQ X τ none G') args s 0 0 (gFree X)) _
  refine lv_aload_n fx.1 fx.2.1 dX7_advance_0 rfl (lv_at hl 0 rfl) ?_
  refine lv_dup fx.1 fx.2.1 dX7_advance_1 rfl ?_
  refine g_geti fx hw h0 lf_RX7_22 rfl dX7_advance_2 ?_
  refine lv_aload_n fx.1 fx.2.1 dX7_advance_5 rfl (lv_at hl 0 rfl) ?_
  refine g_geti fx hw h0 lf_RX7_25 rfl dX7_advance_6 ?_
  refine lv_iadd fx.1 fx.2.1 dX7_advance_9 ?_
  refine g_puti fx hw h0 lp_RX7_22 rfl rfl dX7_advance_10 hok (fun G1 H locs hw hok => ?_)
  refine lv_aload_n fx.1 fx.2.1 dX7_advance_13 rfl (lv_at hl 0 rfl) ?_
  refine g_geti fx hw h0 lf_RX7_22 rfl dX7_advance_14 ?_
  refine g_leti hok (fun v2 hok => ?_)
  refine lv_istore_n (lv' := [(1, .int v2), (0, .ref x0)]) fx.1 fx.2.1 dX7_advance_17 rfl hl (by decide) rfl (fun ls hl => ?_)
  refine w_l_X7_advance_18 fx n x0 h0 ?_ n v2 G1 _ _ _  hw (lv_sub hl [1, 0] rfl) (gOk_bindK hok)
  intro G6 H locs ls hw hl hok
  have hok : gOk (ρ := gG) (k_X7_advance_53 τ n x0  G6) _ := hok
  exact w_X7_advance_53 fx n x0  h0  hr hw (lv_sub hl [0] rfl) hok
