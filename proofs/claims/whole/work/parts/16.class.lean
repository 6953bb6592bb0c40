theorem dX10_seasons_0 : decode cX10_seasons 0 = .ok (.iload_n 1, 1) := by decide +kernel
theorem dX10_seasons_1 : decode cX10_seasons 1 = .ok (.iconst 1, 1) := by decide +kernel
theorem dX10_seasons_2 : decode cX10_seasons 2 = .ok (.bipush 50, 2) := by decide +kernel
theorem dX10_seasons_4 : decode cX10_seasons 4 = .ok (.invokestatic 224, 3) := by decide +kernel
theorem dX10_seasons_7 : decode cX10_seasons 7 = .ok (.aload_n 0, 1) := by decide +kernel
theorem dX10_seasons_8 : decode cX10_seasons 8 = .ok (.getfield 35, 3) := by decide +kernel
theorem dX10_seasons_11 : decode cX10_seasons 11 = .ok (.aload_n 0, 1) := by decide +kernel
theorem dX10_seasons_12 : decode cX10_seasons 12 = .ok (.getfield 70, 3) := by decide +kernel
theorem dX10_seasons_15 : decode cX10_seasons 15 = .ok (.invokevirtual 243, 3) := by decide +kernel
theorem dX10_seasons_18 : decode cX10_seasons 18 = .ok (.aload_n 0, 1) := by decide +kernel
theorem dX10_seasons_19 : decode cX10_seasons 19 = .ok (.getfield 70, 3) := by decide +kernel
theorem dX10_seasons_22 : decode cX10_seasons 22 = .ok (.getfield 289, 3) := by decide +kernel
theorem dX10_seasons_25 : decode cX10_seasons 25 = .ok (.istore_n 2, 1) := by decide +kernel
theorem dX10_seasons_26 : decode cX10_seasons 26 = .ok (.aload_n 0, 1) := by decide +kernel
theorem dX10_seasons_27 : decode cX10_seasons 27 = .ok (.getfield 70, 3) := by decide +kernel
theorem dX10_seasons_30 : decode cX10_seasons 30 = .ok (.iload_n 1, 1) := by decide +kernel
theorem dX10_seasons_31 : decode cX10_seasons 31 = .ok (.aload_n 0, 1) := by decide +kernel
theorem dX10_seasons_32 : decode cX10_seasons 32 = .ok (.getfield 76, 3) := by decide +kernel
theorem dX10_seasons_35 : decode cX10_seasons 35 = .ok (.invokevirtual 292, 3) := by decide +kernel
theorem dX10_seasons_38 : decode cX10_seasons 38 = .ok (.aload_n 0, 1) := by decide +kernel
theorem dX10_seasons_39 : decode cX10_seasons 39 = .ok (.getfield 70, 3) := by decide +kernel
theorem dX10_seasons_42 : decode cX10_seasons 42 = .ok (.getfield 289, 3) := by decide +kernel
theorem dX10_seasons_45 : decode cX10_seasons 45 = .ok (.iload_n 2, 1) := by decide +kernel
theorem dX10_seasons_46 : decode cX10_seasons 46 = .ok (.isub, 1) := by decide +kernel
theorem dX10_seasons_47 : decode cX10_seasons 47 = .ok (.ireturn, 1) := by decide +kernel
theorem lf_RX10_289 : gLf RX10 289 6 14 := ⟨(RX6, TX6, 15), rfl, by decide, wA_t (wt2 (List.mem_of_getElem? (i := 42) (by decide +kernel))) (by decide +kernel), rfl⟩
theorem lv_RX10_292 : gLv RX10 292 RX6 yX6_pass cX6_pass 4 none 2 := gLv_of (wA_t (wt5 (List.mem_of_getElem? (i := 229) (by decide +kernel))) (by decide +kernel)) (wA_t (wt5 (List.mem_of_getElem? (i := 230) (by decide +kernel))) (by decide +kernel)) (wA_t (wt5 (List.mem_of_getElem? (i := 231) (by decide +kernel))) (by decide +kernel)) (wA_t (wt1 (List.mem_of_getElem? (i := 6) (by decide +kernel))) (by decide +kernel)) (wA_t (wt5 (List.mem_of_getElem? (i := 232) (by decide +kernel))) (by decide +kernel)) ⟨rfl, by decide +kernel, by decide +kernel, by decide +kernel⟩
def rm_X10_seasons : Room := { frames := 7, cells := 1, slots := 6, locals := 167 }
def f_X10_seasons (τ : gτ) (n : Nat) (x0 : Nat) (x1 : Int32) (G : gG) : Option ((String ⊕ Int32) × gG) :=
  gBindX (f_X10_needWithin x1 (1 : Int32) (50 : Int32) G) fun _ G1 =>
  (gr G1 10 3 x0).bind fun a2 =>
  (gr G1 10 10 x0).bind fun a3 =>
  (f_X3_keep τ n a2 a3 G1).bind fun G4 =>
  (gr G4 10 10 x0).bind fun a5 =>
  gLet (gi G4 6 14 a5) fun v6 =>
  (gr G4 10 10 x0).bind fun a7 =>
  (gr G4 10 12 x0).bind fun a8 =>
  (f_X6_pass τ n a7 x1 a8 G4).bind fun G9 =>
  (gr G9 10 10 x0).bind fun a10 =>
  some (.inr ((gi G9 6 14 a10) - v6), G9)
set_option maxHeartbeats 4000000 in
set_option maxRecDepth 100000 in
theorem c_X10_seasons (l : Launch) (X : gX) (τ : gτ) (n : Nat) (hS : gS0 l X) (x0 : Nat) (x1 : Int32) (G : gG) (h0 : gK τ x0 10) {r : String ⊕ Int32} {G' : gG} (h : f_X10_seasons τ n x0 x1 G = some (r, G')) : gMX l X τ yX10_seasons cX10_seasons 3 (some .int) rm_X10_seasons [.ref x0, .int x1] G (gOi r) G' := by
  refine g_bodyX (by decide +kernel) (Nat.le_of_ble_eq_true rfl) ?_
  intro p e s m args below meth c ls fx hr hxt hw hl
  have fx : gFx X p s m args meth c cX10_seasons 3 RX10 := fx
  have hl : lv_has ls 3 [(0, .ref x0), (1, .int x1)] := hl
  have hok : gOk (f_X10_seasons τ n x0 x1 G) (fun q => q = (r, G')) := ⟨_, h, rfl⟩
  unfold f_X10_seasons at hok
  show W p l e rm_X10_seasons s m args below meth c s.heap [] 0 0 (vx_MQ below (gQX X τ (gOi r) G') (gXC X τ (gOi r) G') args s rm_X10_seasons.cells rm_X10_seasons.slots (gFree X)) _
  refine lv_iload_n fx.1 fx.2.1 dX10_seasons_0 rfl (lv_at hl 1 rfl) ?_
  refine lv_iconst (v := 1) fx.1 fx.2.1 dX10_seasons_1 (by decide) ?_
  refine lv_bipush (v := 50) fx.1 fx.2.1 dX10_seasons_2 (by decide) ?_
  rcases gOk_bindX hok with ⟨E, G9, hf, hK⟩ | ⟨u, G1, hf, hok⟩
  · have hK : (Sum.inl E, G9) = (r, G') := hK
    cases hK
    refine g_callSX (As := [.int x1, .int (1 : Int32), .int (50 : Int32)]) fx hw hxt (c_X10_needWithin l X τ hS x1 (1 : Int32) (50 : Int32) G  hf) ls_RX10_224 rfl hl.1 rfl ⟨Nat.le_of_ble_eq_true rfl, Nat.le_of_ble_eq_true rfl⟩ (Nat.le_of_ble_eq_true rfl) ⟨Nat.le_of_ble_eq_true rfl, Nat.le_of_ble_eq_true rfl⟩ ⟨Nat.le_of_ble_eq_true rfl, Nat.le_of_ble_eq_true rfl⟩ dX10_seasons_4 (fun u H locs hv hw => ?_) (fun E9 hE => ?_)
    · have hv : (Sum.inl E : String ⊕ Option Value) = Sum.inr u := hv
      cases hv
    · have hE : (Sum.inl E : String ⊕ Option Value) = Sum.inl E9 := hE
      cases hE
      exact ⟨rfl, rfl⟩
  refine g_callSX (As := [.int x1, .int (1 : Int32), .int (50 : Int32)]) fx hw hxt (c_X10_needWithin l X τ hS x1 (1 : Int32) (50 : Int32) G  hf) ls_RX10_224 rfl hl.1 rfl ⟨Nat.le_of_ble_eq_true rfl, Nat.le_of_ble_eq_true rfl⟩ (Nat.le_of_ble_eq_true rfl) ⟨Nat.le_of_ble_eq_true rfl, Nat.le_of_ble_eq_true rfl⟩ ⟨Nat.le_of_ble_eq_true rfl, Nat.le_of_ble_eq_true rfl⟩ dX10_seasons_4 (fun u9 H locs hv hw => ?_) (fun E9 hE => by have hE : (Sum.inr none : String ⊕ Option Value) = Sum.inl E9 := hE; cases hE)
  have hv : (Sum.inr none : String ⊕ Option Value) = Sum.inr u9 := hv
  cases hv
  refine lv_aload_n fx.1 fx.2.1 dX10_seasons_7 rfl (lv_at hl 0 rfl) ?_
  refine g_getr fx hw h0 lf_RX10_35 rfl dX10_seasons_8 hok (fun a2 h_a2 hok => ?_)
  refine lv_aload_n fx.1 fx.2.1 dX10_seasons_11 rfl (lv_at hl 0 rfl) ?_
  refine g_getr fx hw h0 lf_RX10_70 rfl dX10_seasons_12 hok (fun a3 h_a3 hok => ?_)
  obtain ⟨G4, hf, hok⟩ := gOk_bind hok
  refine g_callV0 (κ := 3) fx hw (c_X3_keep l X τ n a2 a3 G1 h_a2 h_a3 hf) lv_RX10_243 ⟨rfl, rfl⟩ rfl rfl h_a2 rfl hl.1 rfl ⟨Nat.le_of_ble_eq_true rfl, Nat.le_of_ble_eq_true rfl⟩ (Nat.le_of_ble_eq_true rfl) ⟨Nat.le_of_ble_eq_true rfl, Nat.le_of_ble_eq_true rfl⟩ dX10_seasons_15 (fun H locs hw => ?_)
  refine lv_aload_n fx.1 fx.2.1 dX10_seasons_18 rfl (lv_at hl 0 rfl) ?_
  refine g_getr fx hw h0 lf_RX10_70 rfl dX10_seasons_19 hok (fun a5 h_a5 hok => ?_)
  refine g_geti fx hw h_a5 lf_RX10_289 rfl dX10_seasons_22 ?_
  refine g_leti hok (fun v6 hok => ?_)
  refine lv_istore_n (lv' := [(2, .int v6), (0, .ref x0), (1, .int x1)]) fx.1 fx.2.1 dX10_seasons_25 rfl hl (by decide) rfl (fun ls hl => ?_)
  refine lv_aload_n fx.1 fx.2.1 dX10_seasons_26 rfl (lv_at hl 1 rfl) ?_
  refine g_getr fx hw h0 lf_RX10_70 rfl dX10_seasons_27 hok (fun a7 h_a7 hok => ?_)
  refine lv_iload_n fx.1 fx.2.1 dX10_seasons_30 rfl (lv_at hl 2 rfl) ?_
  refine lv_aload_n fx.1 fx.2.1 dX10_seasons_31 rfl (lv_at hl 1 rfl) ?_
  refine g_getr fx hw h0 lf_RX10_76 rfl dX10_seasons_32 hok (fun a8 h_a8 hok => ?_)
  obtain ⟨G9, hf, hok⟩ := gOk_bind hok
  refine g_callV0 (κ := 6) fx hw (c_X6_pass l X τ n a7 x1 a8 G4 h_a7 h_a8 hf) lv_RX10_292 ⟨rfl, rfl⟩ rfl rfl h_a7 rfl hl.1 rfl ⟨Nat.le_of_ble_eq_true rfl, Nat.le_of_ble_eq_true rfl⟩ (Nat.le_of_ble_eq_true rfl) ⟨Nat.le_of_ble_eq_true rfl, Nat.le_of_ble_eq_true rfl⟩ dX10_seasons_35 (fun H locs hw => ?_)
  refine lv_aload_n fx.1 fx.2.1 dX10_seasons_38 rfl (lv_at hl 1 rfl) ?_
  refine g_getr fx hw h0 lf_RX10_70 rfl dX10_seasons_39 hok (fun a10 h_a10 hok => ?_)
  refine g_geti fx hw h_a10 lf_RX10_289 rfl dX10_seasons_42 ?_
  refine lv_iload_n fx.1 fx.2.1 dX10_seasons_45 rfl (lv_at hl 0 rfl) ?_
  refine lv_isub fx.1 fx.2.1 dX10_seasons_46 ?_
  cases gOk_some hok
  exact g_iretX fx hw hr ⟨Nat.le_of_ble_eq_true rfl, Nat.le_of_ble_eq_true rfl⟩ dX10_seasons_47
theorem dX10_nameOfThree_0 : decode cX10_nameOfThree 0 = .ok (.bipush 100, 2) := by decide +kernel
theorem dX10_nameOfThree_2 : decode cX10_nameOfThree 2 = .ok (.iload_n 0, 1) := by decide +kernel
theorem dX10_nameOfThree_3 : decode cX10_nameOfThree 3 = .ok (.imul, 1) := by decide +kernel
theorem dX10_nameOfThree_4 : decode cX10_nameOfThree 4 = .ok (.bipush 10, 2) := by decide +kernel
theorem dX10_nameOfThree_6 : decode cX10_nameOfThree 6 = .ok (.iload_n 1, 1) := by decide +kernel
theorem dX10_nameOfThree_7 : decode cX10_nameOfThree 7 = .ok (.imul, 1) := by decide +kernel
theorem dX10_nameOfThree_8 : decode cX10_nameOfThree 8 = .ok (.iadd, 1) := by decide +kernel
theorem dX10_nameOfThree_9 : decode cX10_nameOfThree 9 = .ok (.iload_n 2, 1) := by decide +kernel
theorem dX10_nameOfThree_10 : decode cX10_nameOfThree 10 = .ok (.iadd, 1) := by decide +kernel
theorem dX10_nameOfThree_11 : decode cX10_nameOfThree 11 = .ok (.ireturn, 1) := by decide +kernel
def rm_X10_nameOfThree : Room := { frames := 0, cells := 0, slots := 0, locals := 0 }
def f_X10_nameOfThree (x0 : Int32) (x1 : Int32) (x2 : Int32) : Option (Int32) :=
  some ((((100 : Int32) * x0) + ((10 : Int32) * x1)) + x2)
set_option maxHeartbeats 4000000 in
set_option maxRecDepth 100000 in
theorem c_X10_nameOfThree (l : Launch) (X : gX) (τ : gτ) (x0 : Int32) (x1 : Int32) (x2 : Int32) (G : gG)  {r : Int32}  (h : f_X10_nameOfThree x0 x1 x2 = some r) : gM l X τ yX10_nameOfThree cX10_nameOfThree 3 (some .int) rm_X10_nameOfThree [.int x0, .int x1, .int x2] G (some (.int r)) G := by
  refine g_body (by decide +kernel) (Nat.le_of_ble_eq_true rfl) ?_
  intro p e s m args below meth c ls fx hr hw hl
  have fx : gFx X p s m args meth c cX10_nameOfThree 3 RX10 := fx
  have hl : lv_has ls 3 [(0, .int x0), (1, .int x1), (2, .int x2)] := hl
  have hok : gOk (f_X10_nameOfThree x0 x1 x2) (fun q => q = r) := ⟨_, h, rfl⟩
  unfold f_X10_nameOfThree at hok
  show W p l e rm_X10_nameOfThree s m args below meth c s.heap [] 0 0 (MQ below (gQ X τ (some (.int r)) G) args s 0 0 (gFree X)) _
  refine lv_bipush (v := 100) fx.1 fx.2.1 dX10_nameOfThree_0 (by decide) ?_
  refine lv_iload_n fx.1 fx.2.1 dX10_nameOfThree_2 rfl (lv_at hl 0 rfl) ?_
  refine lv_imul fx.1 fx.2.1 dX10_nameOfThree_3 ?_
  refine lv_bipush (v := 10) fx.1 fx.2.1 dX10_nameOfThree_4 (by decide) ?_
  refine lv_iload_n fx.1 fx.2.1 dX10_nameOfThree_6 rfl (lv_at hl 1 rfl) ?_
  refine lv_imul fx.1 fx.2.1 dX10_nameOfThree_7 ?_
  refine lv_iadd fx.1 fx.2.1 dX10_nameOfThree_8 ?_
  refine lv_iload_n fx.1 fx.2.1 dX10_nameOfThree_9 rfl (lv_at hl 2 rfl) ?_
  refine lv_iadd fx.1 fx.2.1 dX10_nameOfThree_10 ?_
  cases gOk_some hok
  exact g_iret fx hw hr dX10_nameOfThree_11
theorem dX10_best_0 : decode cX10_best 0 = .ok (.iload_n 1, 1) := by decide +kernel
theorem dX10_best_1 : decode cX10_best 1 = .ok (.iconst 1, 1) := by decide +kernel
theorem dX10_best_2 : decode cX10_best 2 = .ok (.sipush 200, 3) := by decide +kernel
theorem dX10_best_5 : decode cX10_best 5 = .ok (.invokestatic 224, 3) := by decide +kernel
theorem dX10_best_8 : decode cX10_best 8 = .ok (.iconst (-1), 1) := by decide +kernel
theorem dX10_best_9 : decode cX10_best 9 = .ok (.istore_n 2, 1) := by decide +kernel
theorem dX10_best_10 : decode cX10_best 10 = .ok (.iconst (-1), 1) := by decide +kernel
theorem dX10_best_11 : decode cX10_best 11 = .ok (.istore_n 3, 1) := by decide +kernel
theorem dX10_best_12 : decode cX10_best 12 = .ok (.iconst 0, 1) := by decide +kernel
theorem dX10_best_13 : decode cX10_best 13 = .ok (.istore 4, 2) := by decide +kernel
theorem dX10_best_15 : decode cX10_best 15 = .ok (.iload 4, 2) := by decide +kernel
theorem dX10_best_17 : decode cX10_best 17 = .ok (.aload_n 0, 1) := by decide +kernel
theorem dX10_best_18 : decode cX10_best 18 = .ok (.getfield 70, 3) := by decide +kernel
theorem dX10_best_21 : decode cX10_best 21 = .ok (.getfield 296, 3) := by decide +kernel
theorem dX10_best_24 : decode cX10_best 24 = .ok (.if_icmp .ge 106, 3) := by decide +kernel
theorem dX10_best_27 : decode cX10_best 27 = .ok (.iload 4, 2) := by decide +kernel
theorem dX10_best_29 : decode cX10_best 29 = .ok (.iconst 1, 1) := by decide +kernel
theorem dX10_best_30 : decode cX10_best 30 = .ok (.iadd, 1) := by decide +kernel
theorem dX10_best_31 : decode cX10_best 31 = .ok (.istore 5, 2) := by decide +kernel
theorem dX10_best_33 : decode cX10_best 33 = .ok (.iload 5, 2) := by decide +kernel
theorem dX10_best_35 : decode cX10_best 35 = .ok (.aload_n 0, 1) := by decide +kernel
theorem dX10_best_36 : decode cX10_best 36 = .ok (.getfield 70, 3) := by decide +kernel
theorem dX10_best_39 : decode cX10_best 39 = .ok (.getfield 296, 3) := by decide +kernel
theorem dX10_best_42 : decode cX10_best 42 = .ok (.if_icmp .ge 82, 3) := by decide +kernel
theorem dX10_best_45 : decode cX10_best 45 = .ok (.iload 5, 2) := by decide +kernel
theorem dX10_best_47 : decode cX10_best 47 = .ok (.iconst 1, 1) := by decide +kernel
theorem dX10_best_48 : decode cX10_best 48 = .ok (.iadd, 1) := by decide +kernel
theorem dX10_best_49 : decode cX10_best 49 = .ok (.istore 6, 2) := by decide +kernel
theorem dX10_best_51 : decode cX10_best 51 = .ok (.iload 6, 2) := by decide +kernel
theorem dX10_best_53 : decode cX10_best 53 = .ok (.aload_n 0, 1) := by decide +kernel
theorem dX10_best_54 : decode cX10_best 54 = .ok (.getfield 70, 3) := by decide +kernel
theorem dX10_best_57 : decode cX10_best 57 = .ok (.getfield 296, 3) := by decide +kernel
theorem dX10_best_60 : decode cX10_best 60 = .ok (.if_icmp .ge 58, 3) := by decide +kernel
theorem dX10_best_63 : decode cX10_best 63 = .ok (.aload_n 0, 1) := by decide +kernel
theorem dX10_best_64 : decode cX10_best 64 = .ok (.getfield 70, 3) := by decide +kernel
theorem dX10_best_67 : decode cX10_best 67 = .ok (.iload 4, 2) := by decide +kernel
theorem dX10_best_69 : decode cX10_best 69 = .ok (.iload 5, 2) := by decide +kernel
theorem dX10_best_71 : decode cX10_best 71 = .ok (.iload 6, 2) := by decide +kernel
theorem dX10_best_73 : decode cX10_best 73 = .ok (.invokevirtual 231, 3) := by decide +kernel
theorem dX10_best_76 : decode cX10_best 76 = .ok (.iload_n 1, 1) := by decide +kernel
theorem dX10_best_77 : decode cX10_best 77 = .ok (.if_icmp .lt 35, 3) := by decide +kernel
theorem dX10_best_80 : decode cX10_best 80 = .ok (.aload_n 0, 1) := by decide +kernel
theorem dX10_best_81 : decode cX10_best 81 = .ok (.iload 4, 2) := by decide +kernel
theorem dX10_best_83 : decode cX10_best 83 = .ok (.iload 5, 2) := by decide +kernel
theorem dX10_best_85 : decode cX10_best 85 = .ok (.iload 6, 2) := by decide +kernel
theorem dX10_best_87 : decode cX10_best 87 = .ok (.iload_n 1, 1) := by decide +kernel
theorem dX10_best_88 : decode cX10_best 88 = .ok (.invokevirtual 227, 3) := by decide +kernel
theorem dX10_best_91 : decode cX10_best 91 = .ok (.istore 7, 2) := by decide +kernel
theorem dX10_best_93 : decode cX10_best 93 = .ok (.iload 7, 2) := by decide +kernel
theorem dX10_best_95 : decode cX10_best 95 = .ok (.iload_n 3, 1) := by decide +kernel
theorem dX10_best_96 : decode cX10_best 96 = .ok (.if_icmp .le 16, 3) := by decide +kernel
theorem dX10_best_99 : decode cX10_best 99 = .ok (.iload 7, 2) := by decide +kernel
theorem dX10_best_101 : decode cX10_best 101 = .ok (.istore_n 3, 1) := by decide +kernel
theorem dX10_best_102 : decode cX10_best 102 = .ok (.iload 4, 2) := by decide +kernel
theorem dX10_best_104 : decode cX10_best 104 = .ok (.iload 5, 2) := by decide +kernel
theorem dX10_best_106 : decode cX10_best 106 = .ok (.iload 6, 2) := by decide +kernel
theorem dX10_best_108 : decode cX10_best 108 = .ok (.invokestatic 299, 3) := by decide +kernel
theorem dX10_best_111 : decode cX10_best 111 = .ok (.istore_n 2, 1) := by decide +kernel
theorem dX10_best_112 : decode cX10_best 112 = .ok (.iinc 6 1, 3) := by decide +kernel
theorem dX10_best_115 : decode cX10_best 115 = .ok (.goto (-64), 3) := by decide +kernel
theorem dX10_best_118 : decode cX10_best 118 = .ok (.iinc 5 1, 3) := by decide +kernel
theorem dX10_best_121 : decode cX10_best 121 = .ok (.goto (-88), 3) := by decide +kernel
theorem dX10_best_124 : decode cX10_best 124 = .ok (.iinc 4 1, 3) := by decide +kernel
theorem dX10_best_127 : decode cX10_best 127 = .ok (.goto (-112), 3) := by decide +kernel
theorem dX10_best_130 : decode cX10_best 130 = .ok (.iload_n 2, 1) := by decide +kernel
theorem dX10_best_131 : decode cX10_best 131 = .ok (.ireturn, 1) := by decide +kernel
theorem ls_RX10_299 : gLs RX10 299 yX10_nameOfThree cX10_nameOfThree 3 (some .int) 3 := gLs_of (wA_t (wt3 (List.mem_of_getElem? (i := 34) (by decide +kernel))) (by decide +kernel)) (wA_t (wt3 (List.mem_of_getElem? (i := 35) (by decide +kernel))) (by decide +kernel)) (wA_t (wt1 (List.mem_of_getElem? (i := 1) (by decide +kernel))) (by decide +kernel)) (wA_t (wt3 (List.mem_of_getElem? (i := 36) (by decide +kernel))) (by decide +kernel)) ⟨by decide +kernel, by decide +kernel, by decide +kernel⟩
def rm_X10_best : Room := { frames := 7, cells := 1, slots := 6, locals := 142 }
def b_X10_best_51 (τ : gτ) (n : Nat) (x0 : Nat) (x1 : Int32) (x2 : Int32) (x3 : Int32) (x4 : Int32) (x5 : Int32) (x6 : Int32) (G : gG) : Option ((Int32 × Int32 × Int32 × gG) ⊕ ((Int32 × Int32 × gG))) :=
  (gr G 10 10 x0).bind fun a6 =>
  if (gi G 6 4 a6) ≤ x6 then (some (.inr (x2, x3, G)))
  else ((gr G 10 10 x0).bind fun a7 =>
  (f_X6_shortest τ a7 x4 x5 x6 G).bind fun v8 =>
  if v8 < x1 then (gLet (x6 + 1) fun v9 =>
  some (.inl (x2, x3, v9, G)))
  else (gBind2 (f_X10_trialBearing τ n x0 x4 x5 x6 x1 G) fun v10 G11 =>
  if v10 ≤ x3 then (gLet (x6 + 1) fun v12 =>
  some (.inl (x2, x3, v12, G11)))
  else ((f_X10_nameOfThree x4 x5 x6).bind fun v13 =>
  gLet (x6 + 1) fun v14 =>
  some (.inl (v13, v10, v14, G11)))))
def l_X10_best_51 (τ : gτ) (n : Nat) (x0 : Nat) (x1 : Int32) (x2 : Int32) (x3 : Int32) (x4 : Int32) (x5 : Int32) (x6 : Int32) (G : gG) : Option ((Int32 × Int32 × gG)) :=
  gIter (fun (q : Int32 × Int32 × Int32 × gG) => b_X10_best_51 τ n x0 x1 q.1 q.2.1 x4 x5 q.2.2.1 q.2.2.2) n (x2, x3, x6, G)
def b_X10_best_33 (τ : gτ) (n : Nat) (x0 : Nat) (x1 : Int32) (x2 : Int32) (x3 : Int32) (x4 : Int32) (x5 : Int32) (G : gG) : Option ((Int32 × Int32 × Int32 × gG) ⊕ ((Int32 × Int32 × gG))) :=
  (gr G 10 10 x0).bind fun a4 =>
  if (gi G 6 4 a4) ≤ x5 then (some (.inr (x2, x3, G)))
  else (gLet (x5 + (1 : Int32)) fun v5 =>
  (l_X10_best_51 τ n x0 x1 x2 x3 x4 x5 v5 G).bind fun q => gLet q.1 fun z15 => gLet q.2.1 fun z16 => gLet q.2.2 fun G17 => 
  gLet (x5 + 1) fun v18 =>
  some (.inl (z15, z16, v18, G17)))
def l_X10_best_33 (τ : gτ) (n : Nat) (x0 : Nat) (x1 : Int32) (x2 : Int32) (x3 : Int32) (x4 : Int32) (x5 : Int32) (G : gG) : Option ((Int32 × Int32 × gG)) :=
  gIter (fun (q : Int32 × Int32 × Int32 × gG) => b_X10_best_33 τ n x0 x1 q.1 q.2.1 x4 q.2.2.1 q.2.2.2) n (x2, x3, x5, G)
def b_X10_best_15 (τ : gτ) (n : Nat) (x0 : Nat) (x1 : Int32) (x2 : Int32) (x3 : Int32) (x4 : Int32) (G : gG) : Option ((Int32 × Int32 × Int32 × gG) ⊕ ((Int32 × gG))) :=
  (gr G 10 10 x0).bind fun a2 =>
  if (gi G 6 4 a2) ≤ x4 then (some (.inr (x2, G)))
  else (gLet (x4 + (1 : Int32)) fun v3 =>
  (l_X10_best_33 τ n x0 x1 x2 x3 x4 v3 G).bind fun q => gLet q.1 fun z19 => gLet q.2.1 fun z20 => gLet q.2.2 fun G21 => 
  gLet (x4 + 1) fun v22 =>
  some (.inl (z19, z20, v22, G21)))
def l_X10_best_15 (τ : gτ) (n : Nat) (x0 : Nat) (x1 : Int32) (x2 : Int32) (x3 : Int32) (x4 : Int32) (G : gG) : Option ((Int32 × gG)) :=
  gIter (fun (q : Int32 × Int32 × Int32 × gG) => b_X10_best_15 τ n x0 x1 q.1 q.2.1 q.2.2.1 q.2.2.2) n (x2, x3, x4, G)
def f_X10_best (τ : gτ) (n : Nat) (x0 : Nat) (x1 : Int32) (G : gG) : Option ((String ⊕ Int32) × gG) :=
  gBindX (f_X10_needWithin x1 (1 : Int32) (200 : Int32) G) fun _ G1 =>
  (l_X10_best_15 τ n x0 x1 (-1 : Int32) (-1 : Int32) (0 : Int32) G1).bind fun q => gLet q.1 fun z23 => gLet q.2 fun G24 => 
  some (.inr z23, G24)
set_option maxHeartbeats 4000000 in
set_option maxRecDepth 100000 in
theorem w_b_X10_best_51 {X : gX} {τ : gτ} {p : Program} {l : Launch} {e : Env} {s : State} {m : MethodId} {args : Array Value} {below : List Frame} {meth : Method} {c : Code} (fx : gFx X p s m args meth c cX10_best 8 RX10) (hS : gS0 l X) (hxt : ∀ x ∈ c.exceptionTable.toList, False) (n : Nat) (x0 : Nat) (x1 : Int32) (x2 : Int32) (x3 : Int32) (x4 : Int32) (x5 : Int32) (x6 : Int32) (h0 : gK τ x0 10) {Q : State → Prop} {K : ((Int32 × Int32 × Int32 × gG) ⊕ ((Int32 × Int32 × gG))) → Prop} {G : gG} {H : Heap} {locs : List Loc} {ls : Array Slot} (hw : gHw X τ G H locs) (hl : lv_has ls 8 [(0, .ref x0), (1, .int x1), (2, .int x2), (3, .int x3), (4, .int x4), (5, .int x5), (6, .int x6)]) (hok : gOk (b_X10_best_51 τ n x0 x1 x2 x3 x4 x5 x6 G) K) (hc : ∀ (y2 : Int32) (y3 : Int32) (y6 : Int32) (G : gG) (H : Heap) (locs : List Loc) (ls : Array Slot), gHw X τ G H locs → lv_has ls 8 [(0, .ref x0), (1, .int x1), (2, .int y2), (3, .int y3), (4, .int x4), (5, .int x5), (6, .int y6)] → K (.inl (y2, y3, y6, G)) → W p l e rm_X10_best s m args below meth c H locs 1 6 Q (F0 m 51 ls [])) (hx0 : ∀ (y2 : Int32) (y3 : Int32) (G : gG) (H : Heap) (locs : List Loc) (ls : Array Slot), gHw X τ G H locs → lv_has ls 8 [(0, .ref x0), (1, .int x1), (2, .int y2), (3, .int y3), (4, .int x4), (5, .int x5)] → K (.inr (y2, y3, G)) → W p l e rm_X10_best s m args below meth c H locs 1 6 Q (F0 m 118 ls [])) : W p l e rm_X10_best s m args below meth c H locs 1 6 Q (F0 m 51 ls []) := by
  unfold b_X10_best_51 at hok
  refine lv_iload fx.1 fx.2.1 dX10_best_51 (lv_at hl 6 rfl) ?_
  refine lv_aload_n fx.1 fx.2.1 dX10_best_53 rfl (lv_at hl 0 rfl) ?_
  refine g_getr fx hw h0 lf_RX10_70 rfl dX10_best_54 hok (fun a6 h_a6 hok => ?_)
  refine g_geti fx hw h_a6 lf_RX10_296 rfl dX10_best_57 ?_
  refine g_icmp_ge (tgt := 118) fx dX10_best_60 (by decide) hok (fun hok => ?_) (fun hok => ?_)
  · exact hx0 x2 x3 G _ _ _  hw (lv_sub hl [0, 1, 2, 3, 4, 5] rfl) (gOk_some hok)
  · refine lv_aload_n fx.1 fx.2.1 dX10_best_63 rfl (lv_at hl 0 rfl) ?_
    refine g_getr fx hw h0 lf_RX10_70 rfl dX10_best_64 hok (fun a7 h_a7 hok => ?_)
    refine lv_iload fx.1 fx.2.1 dX10_best_67 (lv_at hl 4 rfl) ?_
    refine lv_iload fx.1 fx.2.1 dX10_best_69 (lv_at hl 5 rfl) ?_
    refine lv_iload fx.1 fx.2.1 dX10_best_71 (lv_at hl 6 rfl) ?_
    obtain ⟨v8, hf, hok⟩ := gOk_bind hok
    refine g_callV0 (κ := 6) fx hw (c_X6_shortest l X τ a7 x4 x5 x6 G h_a7 hf) lv_RX10_231 ⟨rfl, rfl⟩ rfl rfl h_a7 rfl hl.1 rfl ⟨Nat.le_of_ble_eq_true rfl, Nat.le_of_ble_eq_true rfl⟩ (Nat.le_of_ble_eq_true rfl) ⟨Nat.le_of_ble_eq_true rfl, Nat.le_of_ble_eq_true rfl⟩ dX10_best_73 (fun H locs hw => ?_)
    refine lv_iload_n fx.1 fx.2.1 dX10_best_76 rfl (lv_at hl 1 rfl) ?_
    refine g_icmp_lt (tgt := 112) fx dX10_best_77 (by decide) hok (fun hok => ?_) (fun hok => ?_)
    · obtain ⟨v9, e_v9, hok⟩ := gOk_let hok
      refine lv_iinc (v := v9) (lv' := [(6, .int v9), (0, .ref x0), (1, .int x1), (2, .int x2), (3, .int x3), (4, .int x4), (5, .int x5)]) fx.1 fx.2.1 dX10_best_112 hl (k := 6) rfl (by rw [e_v9]; rfl) (by decide) rfl (fun ls hl => ?_)
      refine lv_goto (tgt := 51) fx.1 fx.2.1 dX10_best_115 (by decide) ?_
      exact hc x2 x3 v9 G _ _ _  hw (lv_sub hl [1, 2, 3, 4, 5, 6, 0] rfl) (gOk_some hok)
    · refine lv_aload_n fx.1 fx.2.1 dX10_best_80 rfl (lv_at hl 0 rfl) ?_
      refine lv_iload fx.1 fx.2.1 dX10_best_81 (lv_at hl 4 rfl) ?_
      refine lv_iload fx.1 fx.2.1 dX10_best_83 (lv_at hl 5 rfl) ?_
      refine lv_iload fx.1 fx.2.1 dX10_best_85 (lv_at hl 6 rfl) ?_
      refine lv_iload_n fx.1 fx.2.1 dX10_best_87 rfl (lv_at hl 1 rfl) ?_
      obtain ⟨v10, G11, hf, hok⟩ := gOk_bind2 hok
      refine g_callV0 (κ := 10) fx hw (c_X10_trialBearing l X τ n x0 x4 x5 x6 x1 G h0 hf) lv_RX10_227 ⟨rfl, rfl⟩ rfl rfl h0 rfl hl.1 rfl ⟨Nat.le_of_ble_eq_true rfl, Nat.le_of_ble_eq_true rfl⟩ (Nat.le_of_ble_eq_true rfl) ⟨Nat.le_of_ble_eq_true rfl, Nat.le_of_ble_eq_true rfl⟩ dX10_best_88 (fun H locs hw => ?_)
      refine lv_istore (lv' := [(7, .int v10), (0, .ref x0), (1, .int x1), (2, .int x2), (3, .int x3), (4, .int x4), (5, .int x5), (6, .int x6)]) fx.1 fx.2.1 dX10_best_91 hl (by decide) rfl (fun ls hl => ?_)
      refine lv_iload fx.1 fx.2.1 dX10_best_93 (lv_at hl 0 rfl) ?_
      refine lv_iload_n fx.1 fx.2.1 dX10_best_95 rfl (lv_at hl 4 rfl) ?_
      refine g_icmp_le (tgt := 112) fx dX10_best_96 (by decide) hok (fun hok => ?_) (fun hok => ?_)
      · obtain ⟨v12, e_v12, hok⟩ := gOk_let hok
        refine lv_iinc (v := v12) (lv' := [(6, .int v12), (7, .int v10), (0, .ref x0), (1, .int x1), (2, .int x2), (3, .int x3), (4, .int x4), (5, .int x5)]) fx.1 fx.2.1 dX10_best_112 hl (k := 7) rfl (by rw [e_v12]; rfl) (by decide) rfl (fun ls hl => ?_)
        refine lv_goto (tgt := 51) fx.1 fx.2.1 dX10_best_115 (by decide) ?_
        exact hc x2 x3 v12 G11 _ _ _  hw (lv_sub hl [2, 3, 4, 5, 6, 7, 0] rfl) (gOk_some hok)
      · refine lv_iload fx.1 fx.2.1 dX10_best_99 (lv_at hl 0 rfl) ?_
        refine lv_istore_n (lv' := [(3, .int v10), (7, .int v10), (0, .ref x0), (1, .int x1), (2, .int x2), (4, .int x4), (5, .int x5), (6, .int x6)]) fx.1 fx.2.1 dX10_best_101 rfl hl (by decide) rfl (fun ls hl => ?_)
        refine lv_iload fx.1 fx.2.1 dX10_best_102 (lv_at hl 5 rfl) ?_
        refine lv_iload fx.1 fx.2.1 dX10_best_104 (lv_at hl 6 rfl) ?_
        refine lv_iload fx.1 fx.2.1 dX10_best_106 (lv_at hl 7 rfl) ?_
        obtain ⟨v13, hf, hok⟩ := gOk_bind hok
        refine g_callS0 fx hw (c_X10_nameOfThree l X τ x4 x5 x6 G11  hf) ls_RX10_299 ⟨rfl, rfl⟩ rfl hl.1 rfl ⟨Nat.le_of_ble_eq_true rfl, Nat.le_of_ble_eq_true rfl⟩ (Nat.le_of_ble_eq_true rfl) ⟨Nat.le_of_ble_eq_true rfl, Nat.le_of_ble_eq_true rfl⟩ dX10_best_108 (fun H locs hw => ?_)
        refine lv_istore_n (lv' := [(2, .int v13), (3, .int v10), (7, .int v10), (0, .ref x0), (1, .int x1), (4, .int x4), (5, .int x5), (6, .int x6)]) fx.1 fx.2.1 dX10_best_111 rfl hl (by decide) rfl (fun ls hl => ?_)
        obtain ⟨v14, e_v14, hok⟩ := gOk_let hok
        refine lv_iinc (v := v14) (lv' := [(6, .int v14), (2, .int v13), (3, .int v10), (7, .int v10), (0, .ref x0), (1, .int x1), (4, .int x4), (5, .int x5)]) fx.1 fx.2.1 dX10_best_112 hl (k := 7) rfl (by rw [e_v14]; rfl) (by decide) rfl (fun ls hl => ?_)
        refine lv_goto (tgt := 51) fx.1 fx.2.1 dX10_best_115 (by decide) ?_
        exact hc v13 v10 v14 G11 _ _ _  hw (lv_sub hl [4, 5, 1, 2, 6, 7, 0] rfl) (gOk_some hok)
theorem w_l_X10_best_51 {X : gX} {τ : gτ} {p : Program} {l : Launch} {e : Env} {s : State} {m : MethodId} {args : Array Value} {below : List Frame} {meth : Method} {c : Code} (fx : gFx X p s m args meth c cX10_best 8 RX10) (hS : gS0 l X) (hxt : ∀ x ∈ c.exceptionTable.toList, False) (n : Nat) (x0 : Nat) (x1 : Int32) (x4 : Int32) (x5 : Int32) (h0 : gK τ x0 10) {Q : State → Prop} {K : ((Int32 × Int32 × gG)) → Prop} (hx0 : ∀ (y2 : Int32) (y3 : Int32) (G : gG) (H : Heap) (locs : List Loc) (ls : Array Slot), gHw X τ G H locs → lv_has ls 8 [(0, .ref x0), (1, .int x1), (2, .int y2), (3, .int y3), (4, .int x4), (5, .int x5)] → K (y2, y3, G) → W p l e rm_X10_best s m args below meth c H locs 1 6 Q (F0 m 118 ls [])) : ∀ (k : Nat) (x2 : Int32) (x3 : Int32) (x6 : Int32) (G : gG) (H : Heap) (locs : List Loc) (ls : Array Slot), gHw X τ G H locs → lv_has ls 8 [(0, .ref x0), (1, .int x1), (2, .int x2), (3, .int x3), (4, .int x4), (5, .int x5), (6, .int x6)] → gOk (gIter (fun (q : Int32 × Int32 × Int32 × gG) => b_X10_best_51 τ n x0 x1 q.1 q.2.1 x4 x5 q.2.2.1 q.2.2.2) k (x2, x3, x6, G)) K → W p l e rm_X10_best s m args below meth c H locs 1 6 Q (F0 m 51 ls []) := by
  intro k
  induction k with
  | zero =>
    intro x2 x3 x6 G H locs ls hw hl hok
    exact gOk_iter0 hok
  | succ k hc =>
    intro x2 x3 x6 G H locs ls hw hl hok
    exact w_b_X10_best_51 fx hS hxt n x0 x1 x2 x3 x4 x5 x6 h0 hw hl (gOk_iter hok) hc hx0
set_option maxHeartbeats 4000000 in
set_option maxRecDepth 100000 in
theorem w_b_X10_best_33 {X : gX} {τ : gτ} {p : Program} {l : Launch} {e : Env} {s : State} {m : MethodId} {args : Array Value} {below : List Frame} {meth : Method} {c : Code} (fx : gFx X p s m args meth c cX10_best 8 RX10) (hS : gS0 l X) (hxt : ∀ x ∈ c.exceptionTable.toList, False) (n : Nat) (x0 : Nat) (x1 : Int32) (x2 : Int32) (x3 : Int32) (x4 : Int32) (x5 : Int32) (h0 : gK τ x0 10) {Q : State → Prop} {K : ((Int32 × Int32 × Int32 × gG) ⊕ ((Int32 × Int32 × gG))) → Prop} {G : gG} {H : Heap} {locs : List Loc} {ls : Array Slot} (hw : gHw X τ G H locs) (hl : lv_has ls 8 [(0, .ref x0), (1, .int x1), (2, .int x2), (3, .int x3), (4, .int x4), (5, .int x5)]) (hok : gOk (b_X10_best_33 τ n x0 x1 x2 x3 x4 x5 G) K) (hc : ∀ (y2 : Int32) (y3 : Int32) (y5 : Int32) (G : gG) (H : Heap) (locs : List Loc) (ls : Array Slot), gHw X τ G H locs → lv_has ls 8 [(0, .ref x0), (1, .int x1), (2, .int y2), (3, .int y3), (4, .int x4), (5, .int y5)] → K (.inl (y2, y3, y5, G)) → W p l e rm_X10_best s m args below meth c H locs 1 6 Q (F0 m 33 ls [])) (hx0 : ∀ (y2 : Int32) (y3 : Int32) (G : gG) (H : Heap) (locs : List Loc) (ls : Array Slot), gHw X τ G H locs → lv_has ls 8 [(0, .ref x0), (1, .int x1), (2, .int y2), (3, .int y3), (4, .int x4)] → K (.inr (y2, y3, G)) → W p l e rm_X10_best s m args below meth c H locs 1 6 Q (F0 m 124 ls [])) : W p l e rm_X10_best s m args below meth c H locs 1 6 Q (F0 m 33 ls []) := by
  unfold b_X10_best_33 at hok
  refine lv_iload fx.1 fx.2.1 dX10_best_33 (lv_at hl 5 rfl) ?_
  refine lv_aload_n fx.1 fx.2.1 dX10_best_35 rfl (lv_at hl 0 rfl) ?_
  refine g_getr fx hw h0 lf_RX10_70 rfl dX10_best_36 hok (fun a4 h_a4 hok => ?_)
  refine g_geti fx hw h_a4 lf_RX10_296 rfl dX10_best_39 ?_
  refine g_icmp_ge (tgt := 124) fx dX10_best_42 (by decide) hok (fun hok => ?_) (fun hok => ?_)
  · exact hx0 x2 x3 G _ _ _  hw (lv_sub hl [0, 1, 2, 3, 4] rfl) (gOk_some hok)
  · refine lv_iload fx.1 fx.2.1 dX10_best_45 (lv_at hl 5 rfl) ?_
    refine lv_iconst (v := 1) fx.1 fx.2.1 dX10_best_47 (by decide) ?_
    refine lv_iadd fx.1 fx.2.1 dX10_best_48 ?_
    refine g_leti hok (fun v5 hok => ?_)
    refine lv_istore (lv' := [(6, .int v5), (0, .ref x0), (1, .int x1), (2, .int x2), (3, .int x3), (4, .int x4), (5, .int x5)]) fx.1 fx.2.1 dX10_best_49 hl (by decide) rfl (fun ls hl => ?_)
    refine w_l_X10_best_51 fx hS hxt n x0 x1 x4 x5 h0 ?_ n x2 x3 v5 G _ _ _  hw (lv_sub hl [1, 2, 3, 4, 5, 6, 0] rfl) (gOk_bindK hok)
    intro z15 z16 G17 H locs ls hw hl hok
    have hok : gOk (ρ := (Int32 × Int32 × Int32 × gG) ⊕ ((Int32 × Int32 × gG))) (gLet (x5 + 1) fun v18 =>   some (.inl (z15, z16, v18, G17))) _ := hok
    obtain ⟨v18, e_v18, hok⟩ := gOk_let hok
    refine lv_iinc (v := v18) (lv' := [(5, .int v18), (0, .ref x0), (1, .int x1), (2, .int z15), (3, .int z16), (4, .int x4)]) fx.1 fx.2.1 dX10_best_118 hl (k := 5) rfl (by rw [e_v18]; rfl) (by decide) rfl (fun ls hl => ?_)
    refine lv_goto (tgt := 33) fx.1 fx.2.1 dX10_best_121 (by decide) ?_
    exact hc z15 z16 v18 G17 _ _ _  hw (lv_sub hl [1, 2, 3, 4, 5, 0] rfl) (gOk_some hok)
theorem w_l_X10_best_33 {X : gX} {τ : gτ} {p : Program} {l : Launch} {e : Env} {s : State} {m : MethodId} {args : Array Value} {below : List Frame} {meth : Method} {c : Code} (fx : gFx X p s m args meth c cX10_best 8 RX10) (hS : gS0 l X) (hxt : ∀ x ∈ c.exceptionTable.toList, False) (n : Nat) (x0 : Nat) (x1 : Int32) (x4 : Int32) (h0 : gK τ x0 10) {Q : State → Prop} {K : ((Int32 × Int32 × gG)) → Prop} (hx0 : ∀ (y2 : Int32) (y3 : Int32) (G : gG) (H : Heap) (locs : List Loc) (ls : Array Slot), gHw X τ G H locs → lv_has ls 8 [(0, .ref x0), (1, .int x1), (2, .int y2), (3, .int y3), (4, .int x4)] → K (y2, y3, G) → W p l e rm_X10_best s m args below meth c H locs 1 6 Q (F0 m 124 ls [])) : ∀ (k : Nat) (x2 : Int32) (x3 : Int32) (x5 : Int32) (G : gG) (H : Heap) (locs : List Loc) (ls : Array Slot), gHw X τ G H locs → lv_has ls 8 [(0, .ref x0), (1, .int x1), (2, .int x2), (3, .int x3), (4, .int x4), (5, .int x5)] → gOk (gIter (fun (q : Int32 × Int32 × Int32 × gG) => b_X10_best_33 τ n x0 x1 q.1 q.2.1 x4 q.2.2.1 q.2.2.2) k (x2, x3, x5, G)) K → W p l e rm_X10_best s m args below meth c H locs 1 6 Q (F0 m 33 ls []) := by
  intro k
  induction k with
  | zero =>
    intro x2 x3 x5 G H locs ls hw hl hok
    exact gOk_iter0 hok
  | succ k hc =>
    intro x2 x3 x5 G H locs ls hw hl hok
    exact w_b_X10_best_33 fx hS hxt n x0 x1 x2 x3 x4 x5 h0 hw hl (gOk_iter hok) hc hx0
set_option maxHeartbeats 4000000 in
set_option maxRecDepth 100000 in
theorem w_b_X10_best_15 {X : gX} {τ : gτ} {p : Program} {l : Launch} {e : Env} {s : State} {m : MethodId} {args : Array Value} {below : List Frame} {meth : Method} {c : Code} (fx : gFx X p s m args meth c cX10_best 8 RX10) (hS : gS0 l X) (hxt : ∀ x ∈ c.exceptionTable.toList, False) (n : Nat) (x0 : Nat) (x1 : Int32) (x2 : Int32) (x3 : Int32) (x4 : Int32) (h0 : gK τ x0 10) {Q : State → Prop} {K : ((Int32 × Int32 × Int32 × gG) ⊕ ((Int32 × gG))) → Prop} {G : gG} {H : Heap} {locs : List Loc} {ls : Array Slot} (hw : gHw X τ G H locs) (hl : lv_has ls 8 [(0, .ref x0), (1, .int x1), (2, .int x2), (3, .int x3), (4, .int x4)]) (hok : gOk (b_X10_best_15 τ n x0 x1 x2 x3 x4 G) K) (hc : ∀ (y2 : Int32) (y3 : Int32) (y4 : Int32) (G : gG) (H : Heap) (locs : List Loc) (ls : Array Slot), gHw X τ G H locs → lv_has ls 8 [(0, .ref x0), (1, .int x1), (2, .int y2), (3, .int y3), (4, .int y4)] → K (.inl (y2, y3, y4, G)) → W p l e rm_X10_best s m args below meth c H locs 1 6 Q (F0 m 15 ls [])) (hx0 : ∀ (y2 : Int32) (G : gG) (H : Heap) (locs : List Loc) (ls : Array Slot), gHw X τ G H locs → lv_has ls 8 [(2, .int y2)] → K (.inr (y2, G)) → W p l e rm_X10_best s m args below meth c H locs 1 6 Q (F0 m 130 ls [])) : W p l e rm_X10_best s m args below meth c H locs 1 6 Q (F0 m 15 ls []) := by
  unfold b_X10_best_15 at hok
  refine lv_iload fx.1 fx.2.1 dX10_best_15 (lv_at hl 4 rfl) ?_
  refine lv_aload_n fx.1 fx.2.1 dX10_best_17 rfl (lv_at hl 0 rfl) ?_
  refine g_getr fx hw h0 lf_RX10_70 rfl dX10_best_18 hok (fun a2 h_a2 hok => ?_)
  refine g_geti fx hw h_a2 lf_RX10_296 rfl dX10_best_21 ?_
  refine g_icmp_ge (tgt := 130) fx dX10_best_24 (by decide) hok (fun hok => ?_) (fun hok => ?_)
  · exact hx0 x2 G _ _ _  hw (lv_sub hl [2] rfl) (gOk_some hok)
  · refine lv_iload fx.1 fx.2.1 dX10_best_27 (lv_at hl 4 rfl) ?_
    refine lv_iconst (v := 1) fx.1 fx.2.1 dX10_best_29 (by decide) ?_
    refine lv_iadd fx.1 fx.2.1 dX10_best_30 ?_
    refine g_leti hok (fun v3 hok => ?_)
    refine lv_istore (lv' := [(5, .int v3), (0, .ref x0), (1, .int x1), (2, .int x2), (3, .int x3), (4, .int x4)]) fx.1 fx.2.1 dX10_best_31 hl (by decide) rfl (fun ls hl => ?_)
    refine w_l_X10_best_33 fx hS hxt n x0 x1 x4 h0 ?_ n x2 x3 v3 G _ _ _  hw (lv_sub hl [1, 2, 3, 4, 5, 0] rfl) (gOk_bindK hok)
    intro z19 z20 G21 H locs ls hw hl hok
    have hok : gOk (ρ := (Int32 × Int32 × Int32 × gG) ⊕ ((Int32 × gG))) (gLet (x4 + 1) fun v22 =>   some (.inl (z19, z20, v22, G21))) _ := hok
    obtain ⟨v22, e_v22, hok⟩ := gOk_let hok
    refine lv_iinc (v := v22) (lv' := [(4, .int v22), (0, .ref x0), (1, .int x1), (2, .int z19), (3, .int z20)]) fx.1 fx.2.1 dX10_best_124 hl (k := 4) rfl (by rw [e_v22]; rfl) (by decide) rfl (fun ls hl => ?_)
    refine lv_goto (tgt := 15) fx.1 fx.2.1 dX10_best_127 (by decide) ?_
    exact hc z19 z20 v22 G21 _ _ _  hw (lv_sub hl [1, 2, 3, 4, 0] rfl) (gOk_some hok)
theorem w_l_X10_best_15 {X : gX} {τ : gτ} {p : Program} {l : Launch} {e : Env} {s : State} {m : MethodId} {args : Array Value} {below : List Frame} {meth : Method} {c : Code} (fx : gFx X p s m args meth c cX10_best 8 RX10) (hS : gS0 l X) (hxt : ∀ x ∈ c.exceptionTable.toList, False) (n : Nat) (x0 : Nat) (x1 : Int32) (h0 : gK τ x0 10) {Q : State → Prop} {K : ((Int32 × gG)) → Prop} (hx0 : ∀ (y2 : Int32) (G : gG) (H : Heap) (locs : List Loc) (ls : Array Slot), gHw X τ G H locs → lv_has ls 8 [(2, .int y2)] → K (y2, G) → W p l e rm_X10_best s m args below meth c H locs 1 6 Q (F0 m 130 ls [])) : ∀ (k : Nat) (x2 : Int32) (x3 : Int32) (x4 : Int32) (G : gG) (H : Heap) (locs : List Loc) (ls : Array Slot), gHw X τ G H locs → lv_has ls 8 [(0, .ref x0), (1, .int x1), (2, .int x2), (3, .int x3), (4, .int x4)] → gOk (gIter (fun (q : Int32 × Int32 × Int32 × gG) => b_X10_best_15 τ n x0 x1 q.1 q.2.1 q.2.2.1 q.2.2.2) k (x2, x3, x4, G)) K → W p l e rm_X10_best s m args below meth c H locs 1 6 Q (F0 m 15 ls []) := by
  intro k
  induction k with
  | zero =>
    intro x2 x3 x4 G H locs ls hw hl hok
    exact gOk_iter0 hok
  | succ k hc =>
    intro x2 x3 x4 G H locs ls hw hl hok
    exact w_b_X10_best_15 fx hS hxt n x0 x1 x2 x3 x4 h0 hw hl (gOk_iter hok) hc hx0
set_option maxHeartbeats 4000000 in
set_option maxRecDepth 100000 in
theorem c_X10_best (l : Launch) (X : gX) (τ : gτ) (n : Nat) (hS : gS0 l X) (x0 : Nat) (x1 : Int32) (G : gG) (h0 : gK τ x0 10) {r : String ⊕ Int32} {G' : gG} (h : f_X10_best τ n x0 x1 G = some (r, G')) : gMX l X τ yX10_best cX10_best 8 (some .int) rm_X10_best [.ref x0, .int x1] G (gOi r) G' := by
  refine g_bodyX (by decide +kernel) (Nat.le_of_ble_eq_true rfl) ?_
  intro p e s m args below meth c ls fx hr hxt hw hl
  have fx : gFx X p s m args meth c cX10_best 8 RX10 := fx
  have hl : lv_has ls 8 [(0, .ref x0), (1, .int x1)] := hl
  have hok : gOk (f_X10_best τ n x0 x1 G) (fun q => q = (r, G')) := ⟨_, h, rfl⟩
  unfold f_X10_best at hok
  show W p l e rm_X10_best s m args below meth c s.heap [] 0 0 (vx_MQ below (gQX X τ (gOi r) G') (gXC X τ (gOi r) G') args s rm_X10_best.cells rm_X10_best.slots (gFree X)) _
  refine lv_iload_n fx.1 fx.2.1 dX10_best_0 rfl (lv_at hl 1 rfl) ?_
  refine lv_iconst (v := 1) fx.1 fx.2.1 dX10_best_1 (by decide) ?_
  refine lv_sipush (v := 200) fx.1 fx.2.1 dX10_best_2 (by decide) ?_
  rcases gOk_bindX hok with ⟨E, G9, hf, hK⟩ | ⟨u, G1, hf, hok⟩
  · have hK : (Sum.inl E, G9) = (r, G') := hK
    cases hK
    refine g_callSX (As := [.int x1, .int (1 : Int32), .int (200 : Int32)]) fx hw hxt (c_X10_needWithin l X τ hS x1 (1 : Int32) (200 : Int32) G  hf) ls_RX10_224 rfl hl.1 rfl ⟨Nat.le_of_ble_eq_true rfl, Nat.le_of_ble_eq_true rfl⟩ (Nat.le_of_ble_eq_true rfl) ⟨Nat.le_of_ble_eq_true rfl, Nat.le_of_ble_eq_true rfl⟩ ⟨Nat.le_of_ble_eq_true rfl, Nat.le_of_ble_eq_true rfl⟩ dX10_best_5 (fun u H locs hv hw => ?_) (fun E9 hE => ?_)
    · have hv : (Sum.inl E : String ⊕ Option Value) = Sum.inr u := hv
      cases hv
    · have hE : (Sum.inl E : String ⊕ Option Value) = Sum.inl E9 := hE
      cases hE
      exact ⟨rfl, rfl⟩
  refine g_callSX (As := [.int x1, .int (1 : Int32), .int (200 : Int32)]) fx hw hxt (c_X10_needWithin l X τ hS x1 (1 : Int32) (200 : Int32) G  hf) ls_RX10_224 rfl hl.1 rfl ⟨Nat.le_of_ble_eq_true rfl, Nat.le_of_ble_eq_true rfl⟩ (Nat.le_of_ble_eq_true rfl) ⟨Nat.le_of_ble_eq_true rfl, Nat.le_of_ble_eq_true rfl⟩ ⟨Nat.le_of_ble_eq_true rfl, Nat.le_of_ble_eq_true rfl⟩ dX10_best_5 (fun u9 H locs hv hw => ?_) (fun E9 hE => by have hE : (Sum.inr none : String ⊕ Option Value) = Sum.inl E9 := hE; cases hE)
  have hv : (Sum.inr none : String ⊕ Option Value) = Sum.inr u9 := hv
  cases hv
  refine lv_iconst (v := (-1)) fx.1 fx.2.1 dX10_best_8 (by decide) ?_
  refine lv_istore_n (lv' := [(2, .int (-1 : Int32)), (0, .ref x0), (1, .int x1)]) fx.1 fx.2.1 dX10_best_9 rfl hl (by decide) rfl (fun ls hl => ?_)
  refine lv_iconst (v := (-1)) fx.1 fx.2.1 dX10_best_10 (by decide) ?_
  refine lv_istore_n (lv' := [(3, .int (-1 : Int32)), (2, .int (-1 : Int32)), (0, .ref x0), (1, .int x1)]) fx.1 fx.2.1 dX10_best_11 rfl hl (by decide) rfl (fun ls hl => ?_)
  refine lv_iconst (v := 0) fx.1 fx.2.1 dX10_best_12 (by decide) ?_
  refine lv_istore (lv' := [(4, .int (0 : Int32)), (3, .int (-1 : Int32)), (2, .int (-1 : Int32)), (0, .ref x0), (1, .int x1)]) fx.1 fx.2.1 dX10_best_13 hl (by decide) rfl (fun ls hl => ?_)
  refine w_l_X10_best_15 fx hS hxt n x0 x1 h0 ?_ n (-1 : Int32) (-1 : Int32) (0 : Int32) G1 _ _ _  hw (lv_sub hl [3, 4, 2, 1, 0] rfl) (gOk_bindK hok)
  intro z23 G24 H locs ls hw hl hok
  have hok : gOk (ρ := (String ⊕ Int32) × gG) (some (.inr z23, G24)) _ := hok
  refine lv_iload_n fx.1 fx.2.1 dX10_best_130 rfl (lv_at hl 0 rfl) ?_
  cases gOk_some hok
  exact g_iretX fx hw hr ⟨Nat.le_of_ble_eq_true rfl, Nat.le_of_ble_eq_true rfl⟩ dX10_best_131
theorem dX10_cheapestFor_0 : decode cX10_cheapestFor 0 = .ok (.iconst (-1), 1) := by decide +kernel
theorem dX10_cheapestFor_1 : decode cX10_cheapestFor 1 = .ok (.istore_n 2, 1) := by decide +kernel
theorem dX10_cheapestFor_2 : decode cX10_cheapestFor 2 = .ok (.bipush 91, 2) := by decide +kernel
theorem dX10_cheapestFor_4 : decode cX10_cheapestFor 4 = .ok (.istore_n 3, 1) := by decide +kernel
theorem dX10_cheapestFor_5 : decode cX10_cheapestFor 5 = .ok (.iconst 0, 1) := by decide +kernel
theorem dX10_cheapestFor_6 : decode cX10_cheapestFor 6 = .ok (.istore 4, 2) := by decide +kernel
theorem dX10_cheapestFor_8 : decode cX10_cheapestFor 8 = .ok (.iload 4, 2) := by decide +kernel
theorem dX10_cheapestFor_10 : decode cX10_cheapestFor 10 = .ok (.aload_n 0, 1) := by decide +kernel
theorem dX10_cheapestFor_11 : decode cX10_cheapestFor 11 = .ok (.getfield 70, 3) := by decide +kernel
theorem dX10_cheapestFor_14 : decode cX10_cheapestFor 14 = .ok (.getfield 296, 3) := by decide +kernel
theorem dX10_cheapestFor_17 : decode cX10_cheapestFor 17 = .ok (.if_icmp .ge 132, 3) := by decide +kernel
theorem dX10_cheapestFor_20 : decode cX10_cheapestFor 20 = .ok (.iload 4, 2) := by decide +kernel
theorem dX10_cheapestFor_22 : decode cX10_cheapestFor 22 = .ok (.iconst 1, 1) := by decide +kernel
theorem dX10_cheapestFor_23 : decode cX10_cheapestFor 23 = .ok (.iadd, 1) := by decide +kernel
theorem dX10_cheapestFor_24 : decode cX10_cheapestFor 24 = .ok (.istore 5, 2) := by decide +kernel
theorem dX10_cheapestFor_26 : decode cX10_cheapestFor 26 = .ok (.iload 5, 2) := by decide +kernel
theorem dX10_cheapestFor_28 : decode cX10_cheapestFor 28 = .ok (.aload_n 0, 1) := by decide +kernel
theorem dX10_cheapestFor_29 : decode cX10_cheapestFor 29 = .ok (.getfield 70, 3) := by decide +kernel
theorem dX10_cheapestFor_32 : decode cX10_cheapestFor 32 = .ok (.getfield 296, 3) := by decide +kernel
theorem dX10_cheapestFor_35 : decode cX10_cheapestFor 35 = .ok (.if_icmp .ge 108, 3) := by decide +kernel
theorem dX10_cheapestFor_38 : decode cX10_cheapestFor 38 = .ok (.iload 5, 2) := by decide +kernel
theorem dX10_cheapestFor_40 : decode cX10_cheapestFor 40 = .ok (.iconst 1, 1) := by decide +kernel
theorem dX10_cheapestFor_41 : decode cX10_cheapestFor 41 = .ok (.iadd, 1) := by decide +kernel
theorem dX10_cheapestFor_42 : decode cX10_cheapestFor 42 = .ok (.istore 6, 2) := by decide +kernel
theorem dX10_cheapestFor_44 : decode cX10_cheapestFor 44 = .ok (.iload 6, 2) := by decide +kernel
theorem dX10_cheapestFor_46 : decode cX10_cheapestFor 46 = .ok (.aload_n 0, 1) := by decide +kernel
theorem dX10_cheapestFor_47 : decode cX10_cheapestFor 47 = .ok (.getfield 70, 3) := by decide +kernel
theorem dX10_cheapestFor_50 : decode cX10_cheapestFor 50 = .ok (.getfield 296, 3) := by decide +kernel
theorem dX10_cheapestFor_53 : decode cX10_cheapestFor 53 = .ok (.if_icmp .ge 84, 3) := by decide +kernel
theorem dX10_cheapestFor_56 : decode cX10_cheapestFor 56 = .ok (.aload_n 0, 1) := by decide +kernel
theorem dX10_cheapestFor_57 : decode cX10_cheapestFor 57 = .ok (.getfield 70, 3) := by decide +kernel
theorem dX10_cheapestFor_60 : decode cX10_cheapestFor 60 = .ok (.iload 4, 2) := by decide +kernel
theorem dX10_cheapestFor_62 : decode cX10_cheapestFor 62 = .ok (.iload 5, 2) := by decide +kernel
theorem dX10_cheapestFor_64 : decode cX10_cheapestFor 64 = .ok (.iload 6, 2) := by decide +kernel
theorem dX10_cheapestFor_66 : decode cX10_cheapestFor 66 = .ok (.invokevirtual 476, 3) := by decide +kernel
theorem dX10_cheapestFor_69 : decode cX10_cheapestFor 69 = .ok (.istore 7, 2) := by decide +kernel
theorem dX10_cheapestFor_71 : decode cX10_cheapestFor 71 = .ok (.iload 7, 2) := by decide +kernel
theorem dX10_cheapestFor_73 : decode cX10_cheapestFor 73 = .ok (.iload_n 3, 1) := by decide +kernel
theorem dX10_cheapestFor_74 : decode cX10_cheapestFor 74 = .ok (.if_icmp .ge 57, 3) := by decide +kernel
theorem dX10_cheapestFor_77 : decode cX10_cheapestFor 77 = .ok (.aload_n 0, 1) := by decide +kernel
theorem dX10_cheapestFor_78 : decode cX10_cheapestFor 78 = .ok (.getfield 70, 3) := by decide +kernel
theorem dX10_cheapestFor_81 : decode cX10_cheapestFor 81 = .ok (.iload 4, 2) := by decide +kernel
theorem dX10_cheapestFor_83 : decode cX10_cheapestFor 83 = .ok (.iload 5, 2) := by decide +kernel
theorem dX10_cheapestFor_85 : decode cX10_cheapestFor 85 = .ok (.iload 6, 2) := by decide +kernel
theorem dX10_cheapestFor_87 : decode cX10_cheapestFor 87 = .ok (.invokevirtual 231, 3) := by decide +kernel
theorem dX10_cheapestFor_90 : decode cX10_cheapestFor 90 = .ok (.aload_n 1, 1) := by decide +kernel
theorem dX10_cheapestFor_91 : decode cX10_cheapestFor 91 = .ok (.getfield 214, 3) := by decide +kernel
theorem dX10_cheapestFor_94 : decode cX10_cheapestFor 94 = .ok (.if_icmp .lt 37, 3) := by decide +kernel
theorem dX10_cheapestFor_97 : decode cX10_cheapestFor 97 = .ok (.aload_n 0, 1) := by decide +kernel
theorem dX10_cheapestFor_98 : decode cX10_cheapestFor 98 = .ok (.iload 4, 2) := by decide +kernel
theorem dX10_cheapestFor_100 : decode cX10_cheapestFor 100 = .ok (.iload 5, 2) := by decide +kernel
theorem dX10_cheapestFor_102 : decode cX10_cheapestFor 102 = .ok (.iload 6, 2) := by decide +kernel
theorem dX10_cheapestFor_104 : decode cX10_cheapestFor 104 = .ok (.aload_n 1, 1) := by decide +kernel
theorem dX10_cheapestFor_105 : decode cX10_cheapestFor 105 = .ok (.getfield 214, 3) := by decide +kernel
theorem dX10_cheapestFor_108 : decode cX10_cheapestFor 108 = .ok (.invokevirtual 227, 3) := by decide +kernel
theorem dX10_cheapestFor_111 : decode cX10_cheapestFor 111 = .ok (.aload_n 1, 1) := by decide +kernel
theorem dX10_cheapestFor_112 : decode cX10_cheapestFor 112 = .ok (.getfield 211, 3) := by decide +kernel
theorem dX10_cheapestFor_115 : decode cX10_cheapestFor 115 = .ok (.if_icmp .lt 16, 3) := by decide +kernel
theorem dX10_cheapestFor_118 : decode cX10_cheapestFor 118 = .ok (.iload 7, 2) := by decide +kernel
theorem dX10_cheapestFor_120 : decode cX10_cheapestFor 120 = .ok (.istore_n 3, 1) := by decide +kernel
theorem dX10_cheapestFor_121 : decode cX10_cheapestFor 121 = .ok (.iload 4, 2) := by decide +kernel
theorem dX10_cheapestFor_123 : decode cX10_cheapestFor 123 = .ok (.iload 5, 2) := by decide +kernel
theorem dX10_cheapestFor_125 : decode cX10_cheapestFor 125 = .ok (.iload 6, 2) := by decide +kernel
theorem dX10_cheapestFor_127 : decode cX10_cheapestFor 127 = .ok (.invokestatic 299, 3) := by decide +kernel
theorem dX10_cheapestFor_130 : decode cX10_cheapestFor 130 = .ok (.istore_n 2, 1) := by decide +kernel
theorem dX10_cheapestFor_131 : decode cX10_cheapestFor 131 = .ok (.iinc 6 1, 3) := by decide +kernel
theorem dX10_cheapestFor_134 : decode cX10_cheapestFor 134 = .ok (.goto (-90), 3) := by decide +kernel
theorem dX10_cheapestFor_137 : decode cX10_cheapestFor 137 = .ok (.iinc 5 1, 3) := by decide +kernel
theorem dX10_cheapestFor_140 : decode cX10_cheapestFor 140 = .ok (.goto (-114), 3) := by decide +kernel
theorem dX10_cheapestFor_143 : decode cX10_cheapestFor 143 = .ok (.iinc 4 1, 3) := by decide +kernel
theorem dX10_cheapestFor_146 : decode cX10_cheapestFor 146 = .ok (.goto (-138), 3) := by decide +kernel
theorem dX10_cheapestFor_149 : decode cX10_cheapestFor 149 = .ok (.iload_n 2, 1) := by decide +kernel
theorem dX10_cheapestFor_150 : decode cX10_cheapestFor 150 = .ok (.ireturn, 1) := by decide +kernel
theorem lv_RX10_476 : gLv RX10 476 RX6 yX6_strengthOf cX6_strengthOf 4 (some .int) 3 := gLv_of (wA_t (wt3 (List.mem_of_getElem? (i := 17) (by decide +kernel))) (by decide +kernel)) (wA_t (wt3 (List.mem_of_getElem? (i := 18) (by decide +kernel))) (by decide +kernel)) (wA_t (wt3 (List.mem_of_getElem? (i := 19) (by decide +kernel))) (by decide +kernel)) (wA_t (wt1 (List.mem_of_getElem? (i := 6) (by decide +kernel))) (by decide +kernel)) (wA_t (wt3 (List.mem_of_getElem? (i := 20) (by decide +kernel))) (by decide +kernel)) ⟨rfl, by decide +kernel, by decide +kernel, by decide +kernel⟩
def rm_X10_cheapestFor : Room := { frames := 5, cells := 0, slots := 0, locals := 121 }
def b_X10_cheapestFor_44 (τ : gτ) (n : Nat) (x0 : Nat) (x1 : Nat) (x2 : Int32) (x3 : Int32) (x4 : Int32) (x5 : Int32) (x6 : Int32) (G : gG) : Option ((Int32 × Int32 × Int32 × gG) ⊕ ((Int32 × Int32 × gG))) :=
  (gr G 10 10 x0).bind fun a5 =>
  if (gi G 6 4 a5) ≤ x6 then (some (.inr (x2, x3, G)))
  else ((gr G 10 10 x0).bind fun a6 =>
  (f_X6_strengthOf τ a6 x4 x5 x6 G).bind fun v7 =>
  if x3 ≤ v7 then (gLet (x6 + 1) fun v8 =>
  some (.inl (x2, x3, v8, G)))
  else ((gr G 10 10 x0).bind fun a9 =>
  (f_X6_shortest τ a9 x4 x5 x6 G).bind fun v10 =>
  if v10 < (gi G 4 1 x1) then (gLet (x6 + 1) fun v11 =>
  some (.inl (x2, x3, v11, G)))
  else (gBind2 (f_X10_trialBearing τ n x0 x4 x5 x6 (gi G 4 1 x1) G) fun v12 G13 =>
  if v12 < (gi G13 4 0 x1) then (gLet (x6 + 1) fun v14 =>
  some (.inl (x2, x3, v14, G13)))
  else ((f_X10_nameOfThree x4 x5 x6).bind fun v15 =>
  gLet (x6 + 1) fun v16 =>
  some (.inl (v15, v7, v16, G13))))))
def l_X10_cheapestFor_44 (τ : gτ) (n : Nat) (x0 : Nat) (x1 : Nat) (x2 : Int32) (x3 : Int32) (x4 : Int32) (x5 : Int32) (x6 : Int32) (G : gG) : Option ((Int32 × Int32 × gG)) :=
  gIter (fun (q : Int32 × Int32 × Int32 × gG) => b_X10_cheapestFor_44 τ n x0 x1 q.1 q.2.1 x4 x5 q.2.2.1 q.2.2.2) n (x2, x3, x6, G)
def b_X10_cheapestFor_26 (τ : gτ) (n : Nat) (x0 : Nat) (x1 : Nat) (x2 : Int32) (x3 : Int32) (x4 : Int32) (x5 : Int32) (G : gG) : Option ((Int32 × Int32 × Int32 × gG) ⊕ ((Int32 × Int32 × gG))) :=
  (gr G 10 10 x0).bind fun a3 =>
  if (gi G 6 4 a3) ≤ x5 then (some (.inr (x2, x3, G)))
  else (gLet (x5 + (1 : Int32)) fun v4 =>
  (l_X10_cheapestFor_44 τ n x0 x1 x2 x3 x4 x5 v4 G).bind fun q => gLet q.1 fun z17 => gLet q.2.1 fun z18 => gLet q.2.2 fun G19 => 
  gLet (x5 + 1) fun v20 =>
  some (.inl (z17, z18, v20, G19)))
def l_X10_cheapestFor_26 (τ : gτ) (n : Nat) (x0 : Nat) (x1 : Nat) (x2 : Int32) (x3 : Int32) (x4 : Int32) (x5 : Int32) (G : gG) : Option ((Int32 × Int32 × gG)) :=
  gIter (fun (q : Int32 × Int32 × Int32 × gG) => b_X10_cheapestFor_26 τ n x0 x1 q.1 q.2.1 x4 q.2.2.1 q.2.2.2) n (x2, x3, x5, G)
def b_X10_cheapestFor_8 (τ : gτ) (n : Nat) (x0 : Nat) (x1 : Nat) (x2 : Int32) (x3 : Int32) (x4 : Int32) (G : gG) : Option ((Int32 × Int32 × Int32 × gG) ⊕ ((Int32 × gG))) :=
  (gr G 10 10 x0).bind fun a1 =>
  if (gi G 6 4 a1) ≤ x4 then (some (.inr (x2, G)))
  else (gLet (x4 + (1 : Int32)) fun v2 =>
  (l_X10_cheapestFor_26 τ n x0 x1 x2 x3 x4 v2 G).bind fun q => gLet q.1 fun z21 => gLet q.2.1 fun z22 => gLet q.2.2 fun G23 => 
  gLet (x4 + 1) fun v24 =>
  some (.inl (z21, z22, v24, G23)))
def l_X10_cheapestFor_8 (τ : gτ) (n : Nat) (x0 : Nat) (x1 : Nat) (x2 : Int32) (x3 : Int32) (x4 : Int32) (G : gG) : Option ((Int32 × gG)) :=
  gIter (fun (q : Int32 × Int32 × Int32 × gG) => b_X10_cheapestFor_8 τ n x0 x1 q.1 q.2.1 q.2.2.1 q.2.2.2) n (x2, x3, x4, G)
def f_X10_cheapestFor (τ : gτ) (n : Nat) (x0 : Nat) (x1 : Nat) (G : gG) : Option (Int32 × gG) :=
  (l_X10_cheapestFor_8 τ n x0 x1 (-1 : Int32) (91 : Int32) (0 : Int32) G).bind fun q => gLet q.1 fun z25 => gLet q.2 fun G26 => 
  some (z25, G26)
set_option maxHeartbeats 4000000 in
set_option maxRecDepth 100000 in
theorem w_b_X10_cheapestFor_44 {X : gX} {τ : gτ} {p : Program} {l : Launch} {e : Env} {s : State} {m : MethodId} {args : Array Value} {below : List Frame} {meth : Method} {c : Code} (fx : gFx X p s m args meth c cX10_cheapestFor 8 RX10) (n : Nat) (x0 : Nat) (x1 : Nat) (x2 : Int32) (x3 : Int32) (x4 : Int32) (x5 : Int32) (x6 : Int32) (h0 : gK τ x0 10) (h1 : gK τ x1 4) {Q : State → Prop} {K : ((Int32 × Int32 × Int32 × gG) ⊕ ((Int32 × Int32 × gG))) → Prop} {G : gG} {H : Heap} {locs : List Loc} {ls : Array Slot} (hw : gHw X τ G H locs) (hl : lv_has ls 8 [(0, .ref x0), (1, .ref x1), (2, .int x2), (3, .int x3), (4, .int x4), (5, .int x5), (6, .int x6)]) (hok : gOk (b_X10_cheapestFor_44 τ n x0 x1 x2 x3 x4 x5 x6 G) K) (hc : ∀ (y2 : Int32) (y3 : Int32) (y6 : Int32) (G : gG) (H : Heap) (locs : List Loc) (ls : Array Slot), gHw X τ G H locs → lv_has ls 8 [(0, .ref x0), (1, .ref x1), (2, .int y2), (3, .int y3), (4, .int x4), (5, .int x5), (6, .int y6)] → K (.inl (y2, y3, y6, G)) → W p l e rm_X10_cheapestFor s m args below meth c H locs 0 0 Q (F0 m 44 ls [])) (hx0 : ∀ (y2 : Int32) (y3 : Int32) (G : gG) (H : Heap) (locs : List Loc) (ls : Array Slot), gHw X τ G H locs → lv_has ls 8 [(0, .ref x0), (1, .ref x1), (2, .int y2), (3, .int y3), (4, .int x4), (5, .int x5)] → K (.inr (y2, y3, G)) → W p l e rm_X10_cheapestFor s m args below meth c H locs 0 0 Q (F0 m 137 ls [])) : W p l e rm_X10_cheapestFor s m args below meth c H locs 0 0 Q (F0 m 44 ls []) := by
  unfold b_X10_cheapestFor_44 at hok
  refine lv_iload fx.1 fx.2.1 dX10_cheapestFor_44 (lv_at hl 6 rfl) ?_
  refine lv_aload_n fx.1 fx.2.1 dX10_cheapestFor_46 rfl (lv_at hl 0 rfl) ?_
  refine g_getr fx hw h0 lf_RX10_70 rfl dX10_cheapestFor_47 hok (fun a5 h_a5 hok => ?_)
  refine g_geti fx hw h_a5 lf_RX10_296 rfl dX10_cheapestFor_50 ?_
  refine g_icmp_ge (tgt := 137) fx dX10_cheapestFor_53 (by decide) hok (fun hok => ?_) (fun hok => ?_)
  · exact hx0 x2 x3 G _ _ _  hw (lv_sub hl [0, 1, 2, 3, 4, 5] rfl) (gOk_some hok)
  · refine lv_aload_n fx.1 fx.2.1 dX10_cheapestFor_56 rfl (lv_at hl 0 rfl) ?_
    refine g_getr fx hw h0 lf_RX10_70 rfl dX10_cheapestFor_57 hok (fun a6 h_a6 hok => ?_)
    refine lv_iload fx.1 fx.2.1 dX10_cheapestFor_60 (lv_at hl 4 rfl) ?_
    refine lv_iload fx.1 fx.2.1 dX10_cheapestFor_62 (lv_at hl 5 rfl) ?_
    refine lv_iload fx.1 fx.2.1 dX10_cheapestFor_64 (lv_at hl 6 rfl) ?_
    obtain ⟨v7, hf, hok⟩ := gOk_bind hok
    refine g_callV0 (κ := 6) fx hw (c_X6_strengthOf l X τ a6 x4 x5 x6 G h_a6 hf) lv_RX10_476 ⟨rfl, rfl⟩ rfl rfl h_a6 rfl hl.1 rfl ⟨Nat.le_of_ble_eq_true rfl, Nat.le_of_ble_eq_true rfl⟩ (Nat.le_of_ble_eq_true rfl) ⟨Nat.le_of_ble_eq_true rfl, Nat.le_of_ble_eq_true rfl⟩ dX10_cheapestFor_66 (fun H locs hw => ?_)
    refine lv_istore (lv' := [(7, .int v7), (0, .ref x0), (1, .ref x1), (2, .int x2), (3, .int x3), (4, .int x4), (5, .int x5), (6, .int x6)]) fx.1 fx.2.1 dX10_cheapestFor_69 hl (by decide) rfl (fun ls hl => ?_)
    refine lv_iload fx.1 fx.2.1 dX10_cheapestFor_71 (lv_at hl 0 rfl) ?_
    refine lv_iload_n fx.1 fx.2.1 dX10_cheapestFor_73 rfl (lv_at hl 4 rfl) ?_
    refine g_icmp_ge (tgt := 131) fx dX10_cheapestFor_74 (by decide) hok (fun hok => ?_) (fun hok => ?_)
    · obtain ⟨v8, e_v8, hok⟩ := gOk_let hok
      refine lv_iinc (v := v8) (lv' := [(6, .int v8), (7, .int v7), (0, .ref x0), (1, .ref x1), (2, .int x2), (3, .int x3), (4, .int x4), (5, .int x5)]) fx.1 fx.2.1 dX10_cheapestFor_131 hl (k := 7) rfl (by rw [e_v8]; rfl) (by decide) rfl (fun ls hl => ?_)
      refine lv_goto (tgt := 44) fx.1 fx.2.1 dX10_cheapestFor_134 (by decide) ?_
      exact hc x2 x3 v8 G _ _ _  hw (lv_sub hl [2, 3, 4, 5, 6, 7, 0] rfl) (gOk_some hok)
    · refine lv_aload_n fx.1 fx.2.1 dX10_cheapestFor_77 rfl (lv_at hl 1 rfl) ?_
      refine g_getr fx hw h0 lf_RX10_70 rfl dX10_cheapestFor_78 hok (fun a9 h_a9 hok => ?_)
      refine lv_iload fx.1 fx.2.1 dX10_cheapestFor_81 (lv_at hl 5 rfl) ?_
      refine lv_iload fx.1 fx.2.1 dX10_cheapestFor_83 (lv_at hl 6 rfl) ?_
      refine lv_iload fx.1 fx.2.1 dX10_cheapestFor_85 (lv_at hl 7 rfl) ?_
      obtain ⟨v10, hf, hok⟩ := gOk_bind hok
      refine g_callV0 (κ := 6) fx hw (c_X6_shortest l X τ a9 x4 x5 x6 G h_a9 hf) lv_RX10_231 ⟨rfl, rfl⟩ rfl rfl h_a9 rfl hl.1 rfl ⟨Nat.le_of_ble_eq_true rfl, Nat.le_of_ble_eq_true rfl⟩ (Nat.le_of_ble_eq_true rfl) ⟨Nat.le_of_ble_eq_true rfl, Nat.le_of_ble_eq_true rfl⟩ dX10_cheapestFor_87 (fun H locs hw => ?_)
      refine lv_aload_n fx.1 fx.2.1 dX10_cheapestFor_90 rfl (lv_at hl 2 rfl) ?_
      refine g_geti fx hw h1 lf_RX10_214 rfl dX10_cheapestFor_91 ?_
      refine g_icmp_lt (tgt := 131) fx dX10_cheapestFor_94 (by decide) hok (fun hok => ?_) (fun hok => ?_)
      · obtain ⟨v11, e_v11, hok⟩ := gOk_let hok
        refine lv_iinc (v := v11) (lv' := [(6, .int v11), (7, .int v7), (0, .ref x0), (1, .ref x1), (2, .int x2), (3, .int x3), (4, .int x4), (5, .int x5)]) fx.1 fx.2.1 dX10_cheapestFor_131 hl (k := 7) rfl (by rw [e_v11]; rfl) (by decide) rfl (fun ls hl => ?_)
        refine lv_goto (tgt := 44) fx.1 fx.2.1 dX10_cheapestFor_134 (by decide) ?_
        exact hc x2 x3 v11 G _ _ _  hw (lv_sub hl [2, 3, 4, 5, 6, 7, 0] rfl) (gOk_some hok)
      · refine lv_aload_n fx.1 fx.2.1 dX10_cheapestFor_97 rfl (lv_at hl 1 rfl) ?_
        refine lv_iload fx.1 fx.2.1 dX10_cheapestFor_98 (lv_at hl 5 rfl) ?_
        refine lv_iload fx.1 fx.2.1 dX10_cheapestFor_100 (lv_at hl 6 rfl) ?_
        refine lv_iload fx.1 fx.2.1 dX10_cheapestFor_102 (lv_at hl 7 rfl) ?_
        refine lv_aload_n fx.1 fx.2.1 dX10_cheapestFor_104 rfl (lv_at hl 2 rfl) ?_
        refine g_geti fx hw h1 lf_RX10_214 rfl dX10_cheapestFor_105 ?_
        obtain ⟨v12, G13, hf, hok⟩ := gOk_bind2 hok
        refine g_callV0 (κ := 10) fx hw (c_X10_trialBearing l X τ n x0 x4 x5 x6 (gi G 4 1 x1) G h0 hf) lv_RX10_227 ⟨rfl, rfl⟩ rfl rfl h0 rfl hl.1 rfl ⟨Nat.le_of_ble_eq_true rfl, Nat.le_of_ble_eq_true rfl⟩ (Nat.le_of_ble_eq_true rfl) ⟨Nat.le_of_ble_eq_true rfl, Nat.le_of_ble_eq_true rfl⟩ dX10_cheapestFor_108 (fun H locs hw => ?_)
        refine lv_aload_n fx.1 fx.2.1 dX10_cheapestFor_111 rfl (lv_at hl 2 rfl) ?_
        refine g_geti fx hw h1 lf_RX10_211 rfl dX10_cheapestFor_112 ?_
        refine g_icmp_lt (tgt := 131) fx dX10_cheapestFor_115 (by decide) hok (fun hok => ?_) (fun hok => ?_)
        · obtain ⟨v14, e_v14, hok⟩ := gOk_let hok
          refine lv_iinc (v := v14) (lv' := [(6, .int v14), (7, .int v7), (0, .ref x0), (1, .ref x1), (2, .int x2), (3, .int x3), (4, .int x4), (5, .int x5)]) fx.1 fx.2.1 dX10_cheapestFor_131 hl (k := 7) rfl (by rw [e_v14]; rfl) (by decide) rfl (fun ls hl => ?_)
          refine lv_goto (tgt := 44) fx.1 fx.2.1 dX10_cheapestFor_134 (by decide) ?_
          exact hc x2 x3 v14 G13 _ _ _  hw (lv_sub hl [2, 3, 4, 5, 6, 7, 0] rfl) (gOk_some hok)
        · refine lv_iload fx.1 fx.2.1 dX10_cheapestFor_118 (lv_at hl 0 rfl) ?_
          refine lv_istore_n (lv' := [(3, .int v7), (7, .int v7), (0, .ref x0), (1, .ref x1), (2, .int x2), (4, .int x4), (5, .int x5), (6, .int x6)]) fx.1 fx.2.1 dX10_cheapestFor_120 rfl hl (by decide) rfl (fun ls hl => ?_)
          refine lv_iload fx.1 fx.2.1 dX10_cheapestFor_121 (lv_at hl 5 rfl) ?_
          refine lv_iload fx.1 fx.2.1 dX10_cheapestFor_123 (lv_at hl 6 rfl) ?_
          refine lv_iload fx.1 fx.2.1 dX10_cheapestFor_125 (lv_at hl 7 rfl) ?_
          obtain ⟨v15, hf, hok⟩ := gOk_bind hok
          refine g_callS0 fx hw (c_X10_nameOfThree l X τ x4 x5 x6 G13  hf) ls_RX10_299 ⟨rfl, rfl⟩ rfl hl.1 rfl ⟨Nat.le_of_ble_eq_true rfl, Nat.le_of_ble_eq_true rfl⟩ (Nat.le_of_ble_eq_true rfl) ⟨Nat.le_of_ble_eq_true rfl, Nat.le_of_ble_eq_true rfl⟩ dX10_cheapestFor_127 (fun H locs hw => ?_)
          refine lv_istore_n (lv' := [(2, .int v15), (3, .int v7), (7, .int v7), (0, .ref x0), (1, .ref x1), (4, .int x4), (5, .int x5), (6, .int x6)]) fx.1 fx.2.1 dX10_cheapestFor_130 rfl hl (by decide) rfl (fun ls hl => ?_)
          obtain ⟨v16, e_v16, hok⟩ := gOk_let hok
          refine lv_iinc (v := v16) (lv' := [(6, .int v16), (2, .int v15), (3, .int v7), (7, .int v7), (0, .ref x0), (1, .ref x1), (4, .int x4), (5, .int x5)]) fx.1 fx.2.1 dX10_cheapestFor_131 hl (k := 7) rfl (by rw [e_v16]; rfl) (by decide) rfl (fun ls hl => ?_)
          refine lv_goto (tgt := 44) fx.1 fx.2.1 dX10_cheapestFor_134 (by decide) ?_
          exact hc v15 v7 v16 G13 _ _ _  hw (lv_sub hl [4, 5, 1, 2, 6, 7, 0] rfl) (gOk_some hok)
theorem w_l_X10_cheapestFor_44 {X : gX} {τ : gτ} {p : Program} {l : Launch} {e : Env} {s : State} {m : MethodId} {args : Array Value} {below : List Frame} {meth : Method} {c : Code} (fx : gFx X p s m args meth c cX10_cheapestFor 8 RX10) (n : Nat) (x0 : Nat) (x1 : Nat) (x4 : Int32) (x5 : Int32) (h0 : gK τ x0 10) (h1 : gK τ x1 4) {Q : State → Prop} {K : ((Int32 × Int32 × gG)) → Prop} (hx0 : ∀ (y2 : Int32) (y3 : Int32) (G : gG) (H : Heap) (locs : List Loc) (ls : Array Slot), gHw X τ G H locs → lv_has ls 8 [(0, .ref x0), (1, .ref x1), (2, .int y2), (3, .int y3), (4, .int x4), (5, .int x5)] → K (y2, y3, G) → W p l e rm_X10_cheapestFor s m args below meth c H locs 0 0 Q (F0 m 137 ls [])) : ∀ (k : Nat) (x2 : Int32) (x3 : Int32) (x6 : Int32) (G : gG) (H : Heap) (locs : List Loc) (ls : Array Slot), gHw X τ G H locs → lv_has ls 8 [(0, .ref x0), (1, .ref x1), (2, .int x2), (3, .int x3), (4, .int x4), (5, .int x5), (6, .int x6)] → gOk (gIter (fun (q : Int32 × Int32 × Int32 × gG) => b_X10_cheapestFor_44 τ n x0 x1 q.1 q.2.1 x4 x5 q.2.2.1 q.2.2.2) k (x2, x3, x6, G)) K → W p l e rm_X10_cheapestFor s m args below meth c H locs 0 0 Q (F0 m 44 ls []) := by
  intro k
  induction k with
  | zero =>
    intro x2 x3 x6 G H locs ls hw hl hok
    exact gOk_iter0 hok
  | succ k hc =>
    intro x2 x3 x6 G H locs ls hw hl hok
    exact w_b_X10_cheapestFor_44 fx n x0 x1 x2 x3 x4 x5 x6 h0 h1 hw hl (gOk_iter hok) hc hx0
set_option maxHeartbeats 4000000 in
set_option maxRecDepth 100000 in
theorem w_b_X10_cheapestFor_26 {X : gX} {τ : gτ} {p : Program} {l : Launch} {e : Env} {s : State} {m : MethodId} {args : Array Value} {below : List Frame} {meth : Method} {c : Code} (fx : gFx X p s m args meth c cX10_cheapestFor 8 RX10) (n : Nat) (x0 : Nat) (x1 : Nat) (x2 : Int32) (x3 : Int32) (x4 : Int32) (x5 : Int32) (h0 : gK τ x0 10) (h1 : gK τ x1 4) {Q : State → Prop} {K : ((Int32 × Int32 × Int32 × gG) ⊕ ((Int32 × Int32 × gG))) → Prop} {G : gG} {H : Heap} {locs : List Loc} {ls : Array Slot} (hw : gHw X τ G H locs) (hl : lv_has ls 8 [(0, .ref x0), (1, .ref x1), (2, .int x2), (3, .int x3), (4, .int x4), (5, .int x5)]) (hok : gOk (b_X10_cheapestFor_26 τ n x0 x1 x2 x3 x4 x5 G) K) (hc : ∀ (y2 : Int32) (y3 : Int32) (y5 : Int32) (G : gG) (H : Heap) (locs : List Loc) (ls : Array Slot), gHw X τ G H locs → lv_has ls 8 [(0, .ref x0), (1, .ref x1), (2, .int y2), (3, .int y3), (4, .int x4), (5, .int y5)] → K (.inl (y2, y3, y5, G)) → W p l e rm_X10_cheapestFor s m args below meth c H locs 0 0 Q (F0 m 26 ls [])) (hx0 : ∀ (y2 : Int32) (y3 : Int32) (G : gG) (H : Heap) (locs : List Loc) (ls : Array Slot), gHw X τ G H locs → lv_has ls 8 [(0, .ref x0), (1, .ref x1), (2, .int y2), (3, .int y3), (4, .int x4)] → K (.inr (y2, y3, G)) → W p l e rm_X10_cheapestFor s m args below meth c H locs 0 0 Q (F0 m 143 ls [])) : W p l e rm_X10_cheapestFor s m args below meth c H locs 0 0 Q (F0 m 26 ls []) := by
  unfold b_X10_cheapestFor_26 at hok
  refine lv_iload fx.1 fx.2.1 dX10_cheapestFor_26 (lv_at hl 5 rfl) ?_
  refine lv_aload_n fx.1 fx.2.1 dX10_cheapestFor_28 rfl (lv_at hl 0 rfl) ?_
  refine g_getr fx hw h0 lf_RX10_70 rfl dX10_cheapestFor_29 hok (fun a3 h_a3 hok => ?_)
  refine g_geti fx hw h_a3 lf_RX10_296 rfl dX10_cheapestFor_32 ?_
  refine g_icmp_ge (tgt := 143) fx dX10_cheapestFor_35 (by decide) hok (fun hok => ?_) (fun hok => ?_)
  · exact hx0 x2 x3 G _ _ _  hw (lv_sub hl [0, 1, 2, 3, 4] rfl) (gOk_some hok)
  · refine lv_iload fx.1 fx.2.1 dX10_cheapestFor_38 (lv_at hl 5 rfl) ?_
    refine lv_iconst (v := 1) fx.1 fx.2.1 dX10_cheapestFor_40 (by decide) ?_
    refine lv_iadd fx.1 fx.2.1 dX10_cheapestFor_41 ?_
    refine g_leti hok (fun v4 hok => ?_)
    refine lv_istore (lv' := [(6, .int v4), (0, .ref x0), (1, .ref x1), (2, .int x2), (3, .int x3), (4, .int x4), (5, .int x5)]) fx.1 fx.2.1 dX10_cheapestFor_42 hl (by decide) rfl (fun ls hl => ?_)
    refine w_l_X10_cheapestFor_44 fx n x0 x1 x4 x5 h0 h1 ?_ n x2 x3 v4 G _ _ _  hw (lv_sub hl [1, 2, 3, 4, 5, 6, 0] rfl) (gOk_bindK hok)
    intro z17 z18 G19 H locs ls hw hl hok
    have hok : gOk (ρ := (Int32 × Int32 × Int32 × gG) ⊕ ((Int32 × Int32 × gG))) (gLet (x5 + 1) fun v20 =>   some (.inl (z17, z18, v20, G19))) _ := hok
    obtain ⟨v20, e_v20, hok⟩ := gOk_let hok
    refine lv_iinc (v := v20) (lv' := [(5, .int v20), (0, .ref x0), (1, .ref x1), (2, .int z17), (3, .int z18), (4, .int x4)]) fx.1 fx.2.1 dX10_cheapestFor_137 hl (k := 5) rfl (by rw [e_v20]; rfl) (by decide) rfl (fun ls hl => ?_)
    refine lv_goto (tgt := 26) fx.1 fx.2.1 dX10_cheapestFor_140 (by decide) ?_
    exact hc z17 z18 v20 G19 _ _ _  hw (lv_sub hl [1, 2, 3, 4, 5, 0] rfl) (gOk_some hok)
theorem w_l_X10_cheapestFor_26 {X : gX} {τ : gτ} {p : Program} {l : Launch} {e : Env} {s : State} {m : MethodId} {args : Array Value} {below : List Frame} {meth : Method} {c : Code} (fx : gFx X p s m args meth c cX10_cheapestFor 8 RX10) (n : Nat) (x0 : Nat) (x1 : Nat) (x4 : Int32) (h0 : gK τ x0 10) (h1 : gK τ x1 4) {Q : State → Prop} {K : ((Int32 × Int32 × gG)) → Prop} (hx0 : ∀ (y2 : Int32) (y3 : Int32) (G : gG) (H : Heap) (locs : List Loc) (ls : Array Slot), gHw X τ G H locs → lv_has ls 8 [(0, .ref x0), (1, .ref x1), (2, .int y2), (3, .int y3), (4, .int x4)] → K (y2, y3, G) → W p l e rm_X10_cheapestFor s m args below meth c H locs 0 0 Q (F0 m 143 ls [])) : ∀ (k : Nat) (x2 : Int32) (x3 : Int32) (x5 : Int32) (G : gG) (H : Heap) (locs : List Loc) (ls : Array Slot), gHw X τ G H locs → lv_has ls 8 [(0, .ref x0), (1, .ref x1), (2, .int x2), (3, .int x3), (4, .int x4), (5, .int x5)] → gOk (gIter (fun (q : Int32 × Int32 × Int32 × gG) => b_X10_cheapestFor_26 τ n x0 x1 q.1 q.2.1 x4 q.2.2.1 q.2.2.2) k (x2, x3, x5, G)) K → W p l e rm_X10_cheapestFor s m args below meth c H locs 0 0 Q (F0 m 26 ls []) := by
  intro k
  induction k with
  | zero =>
    intro x2 x3 x5 G H locs ls hw hl hok
    exact gOk_iter0 hok
  | succ k hc =>
    intro x2 x3 x5 G H locs ls hw hl hok
    exact w_b_X10_cheapestFor_26 fx n x0 x1 x2 x3 x4 x5 h0 h1 hw hl (gOk_iter hok) hc hx0
set_option maxHeartbeats 4000000 in
set_option maxRecDepth 100000 in
theorem w_b_X10_cheapestFor_8 {X : gX} {τ : gτ} {p : Program} {l : Launch} {e : Env} {s : State} {m : MethodId} {args : Array Value} {below : List Frame} {meth : Method} {c : Code} (fx : gFx X p s m args meth c cX10_cheapestFor 8 RX10) (n : Nat) (x0 : Nat) (x1 : Nat) (x2 : Int32) (x3 : Int32) (x4 : Int32) (h0 : gK τ x0 10) (h1 : gK τ x1 4) {Q : State → Prop} {K : ((Int32 × Int32 × Int32 × gG) ⊕ ((Int32 × gG))) → Prop} {G : gG} {H : Heap} {locs : List Loc} {ls : Array Slot} (hw : gHw X τ G H locs) (hl : lv_has ls 8 [(0, .ref x0), (1, .ref x1), (2, .int x2), (3, .int x3), (4, .int x4)]) (hok : gOk (b_X10_cheapestFor_8 τ n x0 x1 x2 x3 x4 G) K) (hc : ∀ (y2 : Int32) (y3 : Int32) (y4 : Int32) (G : gG) (H : Heap) (locs : List Loc) (ls : Array Slot), gHw X τ G H locs → lv_has ls 8 [(0, .ref x0), (1, .ref x1), (2, .int y2), (3, .int y3), (4, .int y4)] → K (.inl (y2, y3, y4, G)) → W p l e rm_X10_cheapestFor s m args below meth c H locs 0 0 Q (F0 m 8 ls [])) (hx0 : ∀ (y2 : Int32) (G : gG) (H : Heap) (locs : List Loc) (ls : Array Slot), gHw X τ G H locs → lv_has ls 8 [(2, .int y2)] → K (.inr (y2, G)) → W p l e rm_X10_cheapestFor s m args below meth c H locs 0 0 Q (F0 m 149 ls [])) : W p l e rm_X10_cheapestFor s m args below meth c H locs 0 0 Q (F0 m 8 ls []) := by
  unfold b_X10_cheapestFor_8 at hok
  refine lv_iload fx.1 fx.2.1 dX10_cheapestFor_8 (lv_at hl 4 rfl) ?_
  refine lv_aload_n fx.1 fx.2.1 dX10_cheapestFor_10 rfl (lv_at hl 0 rfl) ?_
  refine g_getr fx hw h0 lf_RX10_70 rfl dX10_cheapestFor_11 hok (fun a1 h_a1 hok => ?_)
  refine g_geti fx hw h_a1 lf_RX10_296 rfl dX10_cheapestFor_14 ?_
  refine g_icmp_ge (tgt := 149) fx dX10_cheapestFor_17 (by decide) hok (fun hok => ?_) (fun hok => ?_)
  · exact hx0 x2 G _ _ _  hw (lv_sub hl [2] rfl) (gOk_some hok)
  · refine lv_iload fx.1 fx.2.1 dX10_cheapestFor_20 (lv_at hl 4 rfl) ?_
    refine lv_iconst (v := 1) fx.1 fx.2.1 dX10_cheapestFor_22 (by decide) ?_
    refine lv_iadd fx.1 fx.2.1 dX10_cheapestFor_23 ?_
    refine g_leti hok (fun v2 hok => ?_)
    refine lv_istore (lv' := [(5, .int v2), (0, .ref x0), (1, .ref x1), (2, .int x2), (3, .int x3), (4, .int x4)]) fx.1 fx.2.1 dX10_cheapestFor_24 hl (by decide) rfl (fun ls hl => ?_)
    refine w_l_X10_cheapestFor_26 fx n x0 x1 x4 h0 h1 ?_ n x2 x3 v2 G _ _ _  hw (lv_sub hl [1, 2, 3, 4, 5, 0] rfl) (gOk_bindK hok)
    intro z21 z22 G23 H locs ls hw hl hok
    have hok : gOk (ρ := (Int32 × Int32 × Int32 × gG) ⊕ ((Int32 × gG))) (gLet (x4 + 1) fun v24 =>   some (.inl (z21, z22, v24, G23))) _ := hok
    obtain ⟨v24, e_v24, hok⟩ := gOk_let hok
    refine lv_iinc (v := v24) (lv' := [(4, .int v24), (0, .ref x0), (1, .ref x1), (2, .int z21), (3, .int z22)]) fx.1 fx.2.1 dX10_cheapestFor_143 hl (k := 4) rfl (by rw [e_v24]; rfl) (by decide) rfl (fun ls hl => ?_)
    refine lv_goto (tgt := 8) fx.1 fx.2.1 dX10_cheapestFor_146 (by decide) ?_
    exact hc z21 z22 v24 G23 _ _ _  hw (lv_sub hl [1, 2, 3, 4, 0] rfl) (gOk_some hok)
theorem w_l_X10_cheapestFor_8 {X : gX} {τ : gτ} {p : Program} {l : Launch} {e : Env} {s : State} {m : MethodId} {args : Array Value} {below : List Frame} {meth : Method} {c : Code} (fx : gFx X p s m args meth c cX10_cheapestFor 8 RX10) (n : Nat) (x0 : Nat) (x1 : Nat) (h0 : gK τ x0 10) (h1 : gK τ x1 4) {Q : State → Prop} {K : ((Int32 × gG)) → Prop} (hx0 : ∀ (y2 : Int32) (G : gG) (H : Heap) (locs : List Loc) (ls : Array Slot), gHw X τ G H locs → lv_has ls 8 [(2, .int y2)] → K (y2, G) → W p l e rm_X10_cheapestFor s m args below meth c H locs 0 0 Q (F0 m 149 ls [])) : ∀ (k : Nat) (x2 : Int32) (x3 : Int32) (x4 : Int32) (G : gG) (H : Heap) (locs : List Loc) (ls : Array Slot), gHw X τ G H locs → lv_has ls 8 [(0, .ref x0), (1, .ref x1), (2, .int x2), (3, .int x3), (4, .int x4)] → gOk (gIter (fun (q : Int32 × Int32 × Int32 × gG) => b_X10_cheapestFor_8 τ n x0 x1 q.1 q.2.1 q.2.2.1 q.2.2.2) k (x2, x3, x4, G)) K → W p l e rm_X10_cheapestFor s m args below meth c H locs 0 0 Q (F0 m 8 ls []) := by
  intro k
  induction k with
  | zero =>
    intro x2 x3 x4 G H locs ls hw hl hok
    exact gOk_iter0 hok
  | succ k hc =>
    intro x2 x3 x4 G H locs ls hw hl hok
    exact w_b_X10_cheapestFor_8 fx n x0 x1 x2 x3 x4 h0 h1 hw hl (gOk_iter hok) hc hx0
set_option maxHeartbeats 4000000 in
set_option maxRecDepth 100000 in
theorem c_X10_cheapestFor (l : Launch) (X : gX) (τ : gτ) (n : Nat) (x0 : Nat) (x1 : Nat) (G : gG) (h0 : gK τ x0 10) (h1 : gK τ x1 4) {r : Int32} {G' : gG} (h : f_X10_cheapestFor τ n x0 x1 G = some (r, G')) : gM l X τ yX10_cheapestFor cX10_cheapestFor 8 (some .int) rm_X10_cheapestFor [.ref x0, .ref x1] G (some (.int r)) G' := by
  refine g_body (by decide +kernel) (Nat.le_of_ble_eq_true rfl) ?_
  intro p e s m args below meth c ls fx hr hw hl
  have fx : gFx X p s m args meth c cX10_cheapestFor 8 RX10 := fx
  have hl : lv_has ls 8 [(0, .ref x0), (1, .ref x1)] := hl
  have hok : gOk (f_X10_cheapestFor τ n x0 x1 G) (fun q => q = (r, G')) := ⟨_, h, rfl⟩
  unfold f_X10_cheapestFor at hok
  show W p l e rm_X10_cheapestFor s m args below meth c s.heap [] 0 0 (MQ below (gQ X τ (some (.int r)) G') args s 0 0 (gFree X)) _
  refine lv_iconst (v := (-1)) fx.1 fx.2.1 dX10_cheapestFor_0 (by decide) ?_
  refine lv_istore_n (lv' := [(2, .int (-1 : Int32)), (0, .ref x0), (1, .ref x1)]) fx.1 fx.2.1 dX10_cheapestFor_1 rfl hl (by decide) rfl (fun ls hl => ?_)
  refine lv_bipush (v := 91) fx.1 fx.2.1 dX10_cheapestFor_2 (by decide) ?_
  refine lv_istore_n (lv' := [(3, .int (91 : Int32)), (2, .int (-1 : Int32)), (0, .ref x0), (1, .ref x1)]) fx.1 fx.2.1 dX10_cheapestFor_4 rfl hl (by decide) rfl (fun ls hl => ?_)
  refine lv_iconst (v := 0) fx.1 fx.2.1 dX10_cheapestFor_5 (by decide) ?_
  refine lv_istore (lv' := [(4, .int (0 : Int32)), (3, .int (91 : Int32)), (2, .int (-1 : Int32)), (0, .ref x0), (1, .ref x1)]) fx.1 fx.2.1 dX10_cheapestFor_6 hl (by decide) rfl (fun ls hl => ?_)
  refine w_l_X10_cheapestFor_8 fx n x0 x1 h0 h1 ?_ n (-1 : Int32) (91 : Int32) (0 : Int32) G _ _ _  hw (lv_sub hl [3, 4, 2, 1, 0] rfl) (gOk_bindK hok)
  intro z25 G26 H locs ls hw hl hok
  have hok : gOk (ρ := Int32 × gG) (some (z25, G26)) _ := hok
  refine lv_iload_n fx.1 fx.2.1 dX10_cheapestFor_149 rfl (lv_at hl 0 rfl) ?_
  cases gOk_some hok
  exact g_iret fx hw hr dX10_cheapestFor_150
theorem dX10_cheapest_0 : decode cX10_cheapest 0 = .ok (.aload_n 0, 1) := by decide +kernel
theorem dX10_cheapest_1 : decode cX10_cheapest 1 = .ok (.aload_n 0, 1) := by decide +kernel
theorem dX10_cheapest_2 : decode cX10_cheapest 2 = .ok (.iload_n 1, 1) := by decide +kernel
theorem dX10_cheapest_3 : decode cX10_cheapest 3 = .ok (.invokevirtual 207, 3) := by decide +kernel
theorem dX10_cheapest_6 : decode cX10_cheapest 6 = .ok (.invokevirtual 302, 3) := by decide +kernel
theorem dX10_cheapest_9 : decode cX10_cheapest 9 = .ok (.ireturn, 1) := by decide +kernel
theorem lv_RX10_302 : gLv RX10 302 RX10 yX10_cheapestFor cX10_cheapestFor 8 (some .int) 1 := gLv_of (wA_t (wt3 (List.mem_of_getElem? (i := 13) (by decide +kernel))) (by decide +kernel)) (wA_t (wt3 (List.mem_of_getElem? (i := 15) (by decide +kernel))) (by decide +kernel)) (wA_of (List.mem_append_left _ (List.mem_map.mpr ⟨(⟨"YearRope", "cheapestFor", "(LYearRope$Order;)I"⟩, 15), wp1 (List.mem_of_getElem? (i := 3) (by decide +kernel)), rfl⟩)) (by decide +kernel)) (wA_t (wt1 (List.mem_of_getElem? (i := 1) (by decide +kernel))) (by decide +kernel)) (wA_t (wt3 (List.mem_of_getElem? (i := 16) (by decide +kernel))) (by decide +kernel)) ⟨rfl, by decide +kernel, by decide +kernel, by decide +kernel⟩
def rm_X10_cheapest : Room := { frames := 7, cells := 1, slots := 6, locals := 148 }
def f_X10_cheapest (τ : gτ) (n : Nat) (x0 : Nat) (x1 : Int32) (G : gG) : Option ((String ⊕ Int32) × gG) :=
  gBindX (f_X10_orderOf τ x0 x1 G) fun a1 G2 =>
  gchk (gkd τ a1 4) <|
  gBind2 (f_X10_cheapestFor τ n x0 a1 G2) fun v3 G4 =>
  some (.inr v3, G4)
set_option maxHeartbeats 4000000 in
set_option maxRecDepth 100000 in
theorem c_X10_cheapest (l : Launch) (X : gX) (τ : gτ) (n : Nat) (hS : gS0 l X) (x0 : Nat) (x1 : Int32) (G : gG) (h0 : gK τ x0 10) {r : String ⊕ Int32} {G' : gG} (h : f_X10_cheapest τ n x0 x1 G = some (r, G')) : gMX l X τ yX10_cheapest cX10_cheapest 2 (some .int) rm_X10_cheapest [.ref x0, .int x1] G (gOi r) G' := by
  refine g_bodyX (by decide +kernel) (Nat.le_of_ble_eq_true rfl) ?_
  intro p e s m args below meth c ls fx hr hxt hw hl
  have fx : gFx X p s m args meth c cX10_cheapest 2 RX10 := fx
  have hl : lv_has ls 2 [(0, .ref x0), (1, .int x1)] := hl
  have hok : gOk (f_X10_cheapest τ n x0 x1 G) (fun q => q = (r, G')) := ⟨_, h, rfl⟩
  unfold f_X10_cheapest at hok
  show W p l e rm_X10_cheapest s m args below meth c s.heap [] 0 0 (vx_MQ below (gQX X τ (gOi r) G') (gXC X τ (gOi r) G') args s rm_X10_cheapest.cells rm_X10_cheapest.slots (gFree X)) _
  refine lv_aload_n fx.1 fx.2.1 dX10_cheapest_0 rfl (lv_at hl 0 rfl) ?_
  refine lv_aload_n fx.1 fx.2.1 dX10_cheapest_1 rfl (lv_at hl 0 rfl) ?_
  refine lv_iload_n fx.1 fx.2.1 dX10_cheapest_2 rfl (lv_at hl 1 rfl) ?_
  rcases gOk_bindX hok with ⟨E, G9, hf, hK⟩ | ⟨a1, G2, hf, hok⟩
  · have hK : (Sum.inl E, G9) = (r, G') := hK
    cases hK
    refine g_callVX (κ := 10) (As := [.int x1]) fx hw hxt (c_X10_orderOf l X τ hS x0 x1 G h0 hf) lv_RX10_207 rfl rfl h0 rfl hl.1 rfl ⟨Nat.le_of_ble_eq_true rfl, Nat.le_of_ble_eq_true rfl⟩ (Nat.le_of_ble_eq_true rfl) ⟨Nat.le_of_ble_eq_true rfl, Nat.le_of_ble_eq_true rfl⟩ ⟨Nat.le_of_ble_eq_true rfl, Nat.le_of_ble_eq_true rfl⟩ dX10_cheapest_3 (fun u H locs hv hw => ?_) (fun E9 hE => ?_)
    · have hv : (Sum.inl E : String ⊕ Option Value) = Sum.inr u := hv
      cases hv
    · have hE : (Sum.inl E : String ⊕ Option Value) = Sum.inl E9 := hE
      cases hE
      exact ⟨rfl, rfl⟩
  refine g_callVX (κ := 10) (As := [.int x1]) fx hw hxt (c_X10_orderOf l X τ hS x0 x1 G h0 hf) lv_RX10_207 rfl rfl h0 rfl hl.1 rfl ⟨Nat.le_of_ble_eq_true rfl, Nat.le_of_ble_eq_true rfl⟩ (Nat.le_of_ble_eq_true rfl) ⟨Nat.le_of_ble_eq_true rfl, Nat.le_of_ble_eq_true rfl⟩ ⟨Nat.le_of_ble_eq_true rfl, Nat.le_of_ble_eq_true rfl⟩ dX10_cheapest_3 (fun u9 H locs hv hw => ?_) (fun E9 hE => by have hE : (Sum.inr (some (.ref a1)) : String ⊕ Option Value) = Sum.inl E9 := hE; cases hE)
  have hv : (Sum.inr (some (.ref a1)) : String ⊕ Option Value) = Sum.inr u9 := hv
  cases hv
  obtain ⟨h_a1, hok⟩ := gOk_chk hok
  have h_a1 : gK τ a1 4 := gkd_K h_a1
  obtain ⟨v3, G4, hf, hok⟩ := gOk_bind2 hok
  refine g_callV0 (κ := 10) fx hw (c_X10_cheapestFor l X τ n x0 a1 G2 h0 h_a1 hf) lv_RX10_302 ⟨rfl, rfl⟩ rfl rfl h0 rfl hl.1 rfl ⟨Nat.le_of_ble_eq_true rfl, Nat.le_of_ble_eq_true rfl⟩ (Nat.le_of_ble_eq_true rfl) ⟨Nat.le_of_ble_eq_true rfl, Nat.le_of_ble_eq_true rfl⟩ dX10_cheapest_6 (fun H locs hw => ?_)
  cases gOk_some hok
  exact g_iretX fx hw hr ⟨Nat.le_of_ble_eq_true rfl, Nat.le_of_ble_eq_true rfl⟩ dX10_cheapest_9
theorem dX10_tallyThrees_0 : decode cX10_tallyThrees 0 = .ok (.iconst 0, 1) := by decide +kernel
theorem dX10_tallyThrees_1 : decode cX10_tallyThrees 1 = .ok (.istore_n 3, 1) := by decide +kernel
theorem dX10_tallyThrees_2 : decode cX10_tallyThrees 2 = .ok (.iconst 0, 1) := by decide +kernel
theorem dX10_tallyThrees_3 : decode cX10_tallyThrees 3 = .ok (.istore 4, 2) := by decide +kernel
theorem dX10_tallyThrees_5 : decode cX10_tallyThrees 5 = .ok (.iload 4, 2) := by decide +kernel
theorem dX10_tallyThrees_7 : decode cX10_tallyThrees 7 = .ok (.bipush 10, 2) := by decide +kernel
theorem dX10_tallyThrees_9 : decode cX10_tallyThrees 9 = .ok (.if_icmp .ge 17, 3) := by decide +kernel
theorem dX10_tallyThrees_12 : decode cX10_tallyThrees 12 = .ok (.aload_n 0, 1) := by decide +kernel
theorem dX10_tallyThrees_13 : decode cX10_tallyThrees 13 = .ok (.getfield 67, 3) := by decide +kernel
theorem dX10_tallyThrees_16 : decode cX10_tallyThrees 16 = .ok (.iload 4, 2) := by decide +kernel
theorem dX10_tallyThrees_18 : decode cX10_tallyThrees 18 = .ok (.iconst 0, 1) := by decide +kernel
theorem dX10_tallyThrees_19 : decode cX10_tallyThrees 19 = .ok (.iastore, 1) := by decide +kernel
theorem dX10_tallyThrees_20 : decode cX10_tallyThrees 20 = .ok (.iinc 4 1, 3) := by decide +kernel
theorem dX10_tallyThrees_23 : decode cX10_tallyThrees 23 = .ok (.goto (-18), 3) := by decide +kernel
theorem dX10_tallyThrees_26 : decode cX10_tallyThrees 26 = .ok (.iconst 0, 1) := by decide +kernel
theorem dX10_tallyThrees_27 : decode cX10_tallyThrees 27 = .ok (.istore 4, 2) := by decide +kernel
theorem dX10_tallyThrees_29 : decode cX10_tallyThrees 29 = .ok (.iload 4, 2) := by decide +kernel
theorem dX10_tallyThrees_31 : decode cX10_tallyThrees 31 = .ok (.aload_n 0, 1) := by decide +kernel
theorem dX10_tallyThrees_32 : decode cX10_tallyThrees 32 = .ok (.getfield 70, 3) := by decide +kernel
theorem dX10_tallyThrees_35 : decode cX10_tallyThrees 35 = .ok (.getfield 296, 3) := by decide +kernel
theorem dX10_tallyThrees_38 : decode cX10_tallyThrees 38 = .ok (.if_icmp .ge 127, 3) := by decide +kernel
theorem dX10_tallyThrees_41 : decode cX10_tallyThrees 41 = .ok (.iload 4, 2) := by decide +kernel
theorem dX10_tallyThrees_43 : decode cX10_tallyThrees 43 = .ok (.iconst 1, 1) := by decide +kernel
theorem dX10_tallyThrees_44 : decode cX10_tallyThrees 44 = .ok (.iadd, 1) := by decide +kernel
theorem dX10_tallyThrees_45 : decode cX10_tallyThrees 45 = .ok (.istore 5, 2) := by decide +kernel
theorem dX10_tallyThrees_47 : decode cX10_tallyThrees 47 = .ok (.iload 5, 2) := by decide +kernel
theorem dX10_tallyThrees_49 : decode cX10_tallyThrees 49 = .ok (.aload_n 0, 1) := by decide +kernel
theorem dX10_tallyThrees_50 : decode cX10_tallyThrees 50 = .ok (.getfield 70, 3) := by decide +kernel
theorem dX10_tallyThrees_53 : decode cX10_tallyThrees 53 = .ok (.getfield 296, 3) := by decide +kernel
theorem dX10_tallyThrees_56 : decode cX10_tallyThrees 56 = .ok (.if_icmp .ge 103, 3) := by decide +kernel
theorem dX10_tallyThrees_59 : decode cX10_tallyThrees 59 = .ok (.iload 5, 2) := by decide +kernel
theorem dX10_tallyThrees_61 : decode cX10_tallyThrees 61 = .ok (.iconst 1, 1) := by decide +kernel
theorem dX10_tallyThrees_62 : decode cX10_tallyThrees 62 = .ok (.iadd, 1) := by decide +kernel
theorem dX10_tallyThrees_63 : decode cX10_tallyThrees 63 = .ok (.istore 6, 2) := by decide +kernel
theorem dX10_tallyThrees_65 : decode cX10_tallyThrees 65 = .ok (.iload 6, 2) := by decide +kernel
theorem dX10_tallyThrees_67 : decode cX10_tallyThrees 67 = .ok (.aload_n 0, 1) := by decide +kernel
theorem dX10_tallyThrees_68 : decode cX10_tallyThrees 68 = .ok (.getfield 70, 3) := by decide +kernel
theorem dX10_tallyThrees_71 : decode cX10_tallyThrees 71 = .ok (.getfield 296, 3) := by decide +kernel
theorem dX10_tallyThrees_74 : decode cX10_tallyThrees 74 = .ok (.if_icmp .ge 79, 3) := by decide +kernel
theorem dX10_tallyThrees_77 : decode cX10_tallyThrees 77 = .ok (.aload_n 0, 1) := by decide +kernel
theorem dX10_tallyThrees_78 : decode cX10_tallyThrees 78 = .ok (.getfield 70, 3) := by decide +kernel
theorem dX10_tallyThrees_81 : decode cX10_tallyThrees 81 = .ok (.iload 4, 2) := by decide +kernel
theorem dX10_tallyThrees_83 : decode cX10_tallyThrees 83 = .ok (.iload 5, 2) := by decide +kernel
theorem dX10_tallyThrees_85 : decode cX10_tallyThrees 85 = .ok (.iload 6, 2) := by decide +kernel
theorem dX10_tallyThrees_87 : decode cX10_tallyThrees 87 = .ok (.invokevirtual 476, 3) := by decide +kernel
theorem dX10_tallyThrees_90 : decode cX10_tallyThrees 90 = .ok (.iload_n 1, 1) := by decide +kernel
theorem dX10_tallyThrees_91 : decode cX10_tallyThrees 91 = .ok (.if_icmp .ne 56, 3) := by decide +kernel
theorem dX10_tallyThrees_94 : decode cX10_tallyThrees 94 = .ok (.aload_n 0, 1) := by decide +kernel
theorem dX10_tallyThrees_95 : decode cX10_tallyThrees 95 = .ok (.getfield 70, 3) := by decide +kernel
theorem dX10_tallyThrees_98 : decode cX10_tallyThrees 98 = .ok (.iload 4, 2) := by decide +kernel
theorem dX10_tallyThrees_100 : decode cX10_tallyThrees 100 = .ok (.iload 5, 2) := by decide +kernel
theorem dX10_tallyThrees_102 : decode cX10_tallyThrees 102 = .ok (.iload 6, 2) := by decide +kernel
theorem dX10_tallyThrees_104 : decode cX10_tallyThrees 104 = .ok (.invokevirtual 479, 3) := by decide +kernel
theorem dX10_tallyThrees_107 : decode cX10_tallyThrees 107 = .ok (.iload_n 2, 1) := by decide +kernel
theorem dX10_tallyThrees_108 : decode cX10_tallyThrees 108 = .ok (.if_icmp .ne 39, 3) := by decide +kernel
theorem dX10_tallyThrees_111 : decode cX10_tallyThrees 111 = .ok (.iinc 3 1, 3) := by decide +kernel
theorem dX10_tallyThrees_114 : decode cX10_tallyThrees 114 = .ok (.aload_n 0, 1) := by decide +kernel
theorem dX10_tallyThrees_115 : decode cX10_tallyThrees 115 = .ok (.getfield 67, 3) := by decide +kernel
theorem dX10_tallyThrees_118 : decode cX10_tallyThrees 118 = .ok (.iload 4, 2) := by decide +kernel
theorem dX10_tallyThrees_120 : decode cX10_tallyThrees 120 = .ok (.dup2, 1) := by decide +kernel
theorem dX10_tallyThrees_121 : decode cX10_tallyThrees 121 = .ok (.iaload, 1) := by decide +kernel
theorem dX10_tallyThrees_122 : decode cX10_tallyThrees 122 = .ok (.iconst 1, 1) := by decide +kernel
theorem dX10_tallyThrees_123 : decode cX10_tallyThrees 123 = .ok (.iadd, 1) := by decide +kernel
theorem dX10_tallyThrees_124 : decode cX10_tallyThrees 124 = .ok (.iastore, 1) := by decide +kernel
theorem dX10_tallyThrees_125 : decode cX10_tallyThrees 125 = .ok (.aload_n 0, 1) := by decide +kernel
theorem dX10_tallyThrees_126 : decode cX10_tallyThrees 126 = .ok (.getfield 67, 3) := by decide +kernel
theorem dX10_tallyThrees_129 : decode cX10_tallyThrees 129 = .ok (.iload 5, 2) := by decide +kernel
theorem dX10_tallyThrees_131 : decode cX10_tallyThrees 131 = .ok (.dup2, 1) := by decide +kernel
theorem dX10_tallyThrees_132 : decode cX10_tallyThrees 132 = .ok (.iaload, 1) := by decide +kernel
theorem dX10_tallyThrees_133 : decode cX10_tallyThrees 133 = .ok (.iconst 1, 1) := by decide +kernel
theorem dX10_tallyThrees_134 : decode cX10_tallyThrees 134 = .ok (.iadd, 1) := by decide +kernel
theorem dX10_tallyThrees_135 : decode cX10_tallyThrees 135 = .ok (.iastore, 1) := by decide +kernel
theorem dX10_tallyThrees_136 : decode cX10_tallyThrees 136 = .ok (.aload_n 0, 1) := by decide +kernel
theorem dX10_tallyThrees_137 : decode cX10_tallyThrees 137 = .ok (.getfield 67, 3) := by decide +kernel
theorem dX10_tallyThrees_140 : decode cX10_tallyThrees 140 = .ok (.iload 6, 2) := by decide +kernel
theorem dX10_tallyThrees_142 : decode cX10_tallyThrees 142 = .ok (.dup2, 1) := by decide +kernel
theorem dX10_tallyThrees_143 : decode cX10_tallyThrees 143 = .ok (.iaload, 1) := by decide +kernel
theorem dX10_tallyThrees_144 : decode cX10_tallyThrees 144 = .ok (.iconst 1, 1) := by decide +kernel
theorem dX10_tallyThrees_145 : decode cX10_tallyThrees 145 = .ok (.iadd, 1) := by decide +kernel
theorem dX10_tallyThrees_146 : decode cX10_tallyThrees 146 = .ok (.iastore, 1) := by decide +kernel
theorem dX10_tallyThrees_147 : decode cX10_tallyThrees 147 = .ok (.iinc 6 1, 3) := by decide +kernel
theorem dX10_tallyThrees_150 : decode cX10_tallyThrees 150 = .ok (.goto (-85), 3) := by decide +kernel
theorem dX10_tallyThrees_153 : decode cX10_tallyThrees 153 = .ok (.iinc 5 1, 3) := by decide +kernel
theorem dX10_tallyThrees_156 : decode cX10_tallyThrees 156 = .ok (.goto (-109), 3) := by decide +kernel
theorem dX10_tallyThrees_159 : decode cX10_tallyThrees 159 = .ok (.iinc 4 1, 3) := by decide +kernel
theorem dX10_tallyThrees_162 : decode cX10_tallyThrees 162 = .ok (.goto (-133), 3) := by decide +kernel
theorem dX10_tallyThrees_165 : decode cX10_tallyThrees 165 = .ok (.iload_n 3, 1) := by decide +kernel
theorem dX10_tallyThrees_166 : decode cX10_tallyThrees 166 = .ok (.ireturn, 1) := by decide +kernel
theorem lf_RX10_67 : gLf RX10 67 10 9 := ⟨(RX10, TX10, 15), rfl, by decide, wA_t (wt2 (List.mem_of_getElem? (i := 135) (by decide +kernel))) (by decide +kernel), rfl⟩
theorem lv_RX10_479 : gLv RX10 479 RX6 yX6_rotOf cX6_rotOf 4 (some .int) 3 := gLv_of (wA_t (wt6 (List.mem_of_getElem? (i := 100) (by decide +kernel))) (by decide +kernel)) (wA_t (wt6 (List.mem_of_getElem? (i := 101) (by decide +kernel))) (by decide +kernel)) (wA_t (wt6 (List.mem_of_getElem? (i := 102) (by decide +kernel))) (by decide +kernel)) (wA_t (wt1 (List.mem_of_getElem? (i := 6) (by decide +kernel))) (by decide +kernel)) (wA_t (wt6 (List.mem_of_getElem? (i := 103) (by decide +kernel))) (by decide +kernel)) ⟨rfl, by decide +kernel, by decide +kernel, by decide +kernel⟩
def rm_X10_tallyThrees : Room := { frames := 2, cells := 0, slots := 0, locals := 44 }
def b_X10_tallyThrees_5 (τ : gτ) (n : Nat) (x0 : Nat) (x1 : Int32) (x2 : Int32) (x3 : Int32) (x4 : Int32) (G : gG) : Option ((Int32 × gG) ⊕ ((gG))) :=
  if (10 : Int32) ≤ x4 then (some (.inr G))
  else ((gr G 10 9 x0).bind fun a1 =>
  gchk (gIn x4 (gn τ a1)) <| gLet (gse G a1 (Int32.toNatClampNeg x4) (0 : Int32)) fun G2 =>
  gLet (x4 + 1) fun v3 =>
  some (.inl (v3, G2)))
def l_X10_tallyThrees_5 (τ : gτ) (n : Nat) (x0 : Nat) (x1 : Int32) (x2 : Int32) (x3 : Int32) (x4 : Int32) (G : gG) : Option ((gG)) :=
  gIter (fun (q : Int32 × gG) => b_X10_tallyThrees_5 τ n x0 x1 x2 x3 q.1 q.2) n (x4, G)
def b_X10_tallyThrees_65 (τ : gτ) (n : Nat) (x0 : Nat) (x1 : Int32) (x2 : Int32) (x3 : Int32) (x4 : Int32) (x5 : Int32) (x6 : Int32) (G : gG) : Option ((Int32 × Int32 × gG) ⊕ ((Int32 × gG))) :=
  (gr G 10 10 x0).bind fun a9 =>
  if (gi G 6 4 a9) ≤ x6 then (some (.inr (x3, G)))
  else ((gr G 10 10 x0).bind fun a10 =>
  (f_X6_strengthOf τ a10 x4 x5 x6 G).bind fun v11 =>
  if v11 = x1 then ((gr G 10 10 x0).bind fun a12 =>
  (f_X6_rotOf τ a12 x4 x5 x6 G).bind fun v13 =>
  if v13 = x2 then (gLet (x3 + 1) fun v14 =>
  (gr G 10 9 x0).bind fun a15 =>
  gchk (gIn x4 (gn τ a15)) <|
  gchk (gIn x4 (gn τ a15)) <| gLet (gse G a15 (Int32.toNatClampNeg x4) ((ge G a15 (Int32.toNatClampNeg x4)) + (1 : Int32))) fun G16 =>
  (gr G16 10 9 x0).bind fun a17 =>
  gchk (gIn x5 (gn τ a17)) <|
  gchk (gIn x5 (gn τ a17)) <| gLet (gse G16 a17 (Int32.toNatClampNeg x5) ((ge G16 a17 (Int32.toNatClampNeg x5)) + (1 : Int32))) fun G18 =>
  (gr G18 10 9 x0).bind fun a19 =>
  gchk (gIn x6 (gn τ a19)) <|
  gchk (gIn x6 (gn τ a19)) <| gLet (gse G18 a19 (Int32.toNatClampNeg x6) ((ge G18 a19 (Int32.toNatClampNeg x6)) + (1 : Int32))) fun G20 =>
  gLet (x6 + 1) fun v21 =>
  some (.inl (v14, v21, G20)))
  else (gLet (x6 + 1) fun v22 =>
  some (.inl (x3, v22, G))))
  else (gLet (x6 + 1) fun v23 =>
  some (.inl (x3, v23, G))))
def l_X10_tallyThrees_65 (τ : gτ) (n : Nat) (x0 : Nat) (x1 : Int32) (x2 : Int32) (x3 : Int32) (x4 : Int32) (x5 : Int32) (x6 : Int32) (G : gG) : Option ((Int32 × gG)) :=
  gIter (fun (q : Int32 × Int32 × gG) => b_X10_tallyThrees_65 τ n x0 x1 x2 q.1 x4 x5 q.2.1 q.2.2) n (x3, x6, G)
def b_X10_tallyThrees_47 (τ : gτ) (n : Nat) (x0 : Nat) (x1 : Int32) (x2 : Int32) (x3 : Int32) (x4 : Int32) (x5 : Int32) (G : gG) : Option ((Int32 × Int32 × gG) ⊕ ((Int32 × gG))) :=
  (gr G 10 10 x0).bind fun a7 =>
  if (gi G 6 4 a7) ≤ x5 then (some (.inr (x3, G)))
  else (gLet (x5 + (1 : Int32)) fun v8 =>
  (l_X10_tallyThrees_65 τ n x0 x1 x2 x3 x4 x5 v8 G).bind fun q => gLet q.1 fun z24 => gLet q.2 fun G25 => 
  gLet (x5 + 1) fun v26 =>
  some (.inl (z24, v26, G25)))
def l_X10_tallyThrees_47 (τ : gτ) (n : Nat) (x0 : Nat) (x1 : Int32) (x2 : Int32) (x3 : Int32) (x4 : Int32) (x5 : Int32) (G : gG) : Option ((Int32 × gG)) :=
  gIter (fun (q : Int32 × Int32 × gG) => b_X10_tallyThrees_47 τ n x0 x1 x2 q.1 x4 q.2.1 q.2.2) n (x3, x5, G)
def b_X10_tallyThrees_29 (τ : gτ) (n : Nat) (x0 : Nat) (x1 : Int32) (x2 : Int32) (x3 : Int32) (x4 : Int32) (G : gG) : Option ((Int32 × Int32 × gG) ⊕ ((Int32 × gG))) :=
  (gr G 10 10 x0).bind fun a5 =>
  if (gi G 6 4 a5) ≤ x4 then (some (.inr (x3, G)))
  else (gLet (x4 + (1 : Int32)) fun v6 =>
  (l_X10_tallyThrees_47 τ n x0 x1 x2 x3 x4 v6 G).bind fun q => gLet q.1 fun z27 => gLet q.2 fun G28 => 
  gLet (x4 + 1) fun v29 =>
  some (.inl (z27, v29, G28)))
def l_X10_tallyThrees_29 (τ : gτ) (n : Nat) (x0 : Nat) (x1 : Int32) (x2 : Int32) (x3 : Int32) (x4 : Int32) (G : gG) : Option ((Int32 × gG)) :=
  gIter (fun (q : Int32 × Int32 × gG) => b_X10_tallyThrees_29 τ n x0 x1 x2 q.1 q.2.1 q.2.2) n (x3, x4, G)
def k_X10_tallyThrees_26 (τ : gτ) (n : Nat) (x0 : Nat) (x1 : Int32) (x2 : Int32) (x3 : Int32)  (G : gG) : Option (Int32 × gG) :=
  (l_X10_tallyThrees_29 τ n x0 x1 x2 x3 (0 : Int32) G).bind fun q => gLet q.1 fun z30 => gLet q.2 fun G31 => 
  some (z30, G31)
def f_X10_tallyThrees (τ : gτ) (n : Nat) (x0 : Nat) (x1 : Int32) (x2 : Int32) (G : gG) : Option (Int32 × gG) :=
  (l_X10_tallyThrees_5 τ n x0 x1 x2 (0 : Int32) (0 : Int32) G).bind fun q => gLet q fun G4 => 
  k_X10_tallyThrees_26 τ n x0 x1 x2 (0 : Int32)  G4
set_option maxHeartbeats 4000000 in
set_option maxRecDepth 100000 in
theorem w_b_X10_tallyThrees_5 {X : gX} {τ : gτ} {p : Program} {l : Launch} {e : Env} {s : State} {m : MethodId} {args : Array Value} {below : List Frame} {meth : Method} {c : Code} (fx : gFx X p s m args meth c cX10_tallyThrees 7 RX10) (n : Nat) (x0 : Nat) (x1 : Int32) (x2 : Int32) (x3 : Int32) (x4 : Int32) (h0 : gK τ x0 10) {Q : State → Prop} {K : ((Int32 × gG) ⊕ ((gG))) → Prop} {G : gG} {H : Heap} {locs : List Loc} {ls : Array Slot} (hw : gHw X τ G H locs) (hl : lv_has ls 7 [(0, .ref x0), (1, .int x1), (2, .int x2), (3, .int x3), (4, .int x4)]) (hok : gOk (b_X10_tallyThrees_5 τ n x0 x1 x2 x3 x4 G) K) (hc : ∀ (y4 : Int32) (G : gG) (H : Heap) (locs : List Loc) (ls : Array Slot), gHw X τ G H locs → lv_has ls 7 [(0, .ref x0), (1, .int x1), (2, .int x2), (3, .int x3), (4, .int y4)] → K (.inl (y4, G)) → W p l e rm_X10_tallyThrees s m args below meth c H locs 0 0 Q (F0 m 5 ls [])) (hx0 : ∀ (G : gG) (H : Heap) (locs : List Loc) (ls : Array Slot), gHw X τ G H locs → lv_has ls 7 [(0, .ref x0), (1, .int x1), (2, .int x2), (3, .int x3)] → K (.inr G) → W p l e rm_X10_tallyThrees s m args below meth c H locs 0 0 Q (F0 m 26 ls [])) : W p l e rm_X10_tallyThrees s m args below meth c H locs 0 0 Q (F0 m 5 ls []) := by
  unfold b_X10_tallyThrees_5 at hok
  refine lv_iload fx.1 fx.2.1 dX10_tallyThrees_5 (lv_at hl 4 rfl) ?_
  refine lv_bipush (v := 10) fx.1 fx.2.1 dX10_tallyThrees_7 (by decide) ?_
  refine g_icmp_ge (tgt := 26) fx dX10_tallyThrees_9 (by decide) hok (fun hok => ?_) (fun hok => ?_)
  · exact hx0  G _ _ _  hw (lv_sub hl [0, 1, 2, 3] rfl) (gOk_some hok)
  · refine lv_aload_n fx.1 fx.2.1 dX10_tallyThrees_12 rfl (lv_at hl 0 rfl) ?_
    refine g_getr fx hw h0 lf_RX10_67 rfl dX10_tallyThrees_13 hok (fun a1 h_a1 hok => ?_)
    refine lv_iload fx.1 fx.2.1 dX10_tallyThrees_16 (lv_at hl 4 rfl) ?_
    refine lv_iconst (v := 0) fx.1 fx.2.1 dX10_tallyThrees_18 (by decide) ?_
    refine g_iast fx hw h_a1 dX10_tallyThrees_19 hok (fun G2 H locs hw hok => ?_)
    obtain ⟨v3, e_v3, hok⟩ := gOk_let hok
    refine lv_iinc (v := v3) (lv' := [(4, .int v3), (0, .ref x0), (1, .int x1), (2, .int x2), (3, .int x3)]) fx.1 fx.2.1 dX10_tallyThrees_20 hl (k := 4) rfl (by rw [e_v3]; rfl) (by decide) rfl (fun ls hl => ?_)
    refine lv_goto (tgt := 5) fx.1 fx.2.1 dX10_tallyThrees_23 (by decide) ?_
    exact hc v3 G2 _ _ _  hw (lv_sub hl [1, 2, 3, 4, 0] rfl) (gOk_some hok)
theorem w_l_X10_tallyThrees_5 {X : gX} {τ : gτ} {p : Program} {l : Launch} {e : Env} {s : State} {m : MethodId} {args : Array Value} {below : List Frame} {meth : Method} {c : Code} (fx : gFx X p s m args meth c cX10_tallyThrees 7 RX10) (n : Nat) (x0 : Nat) (x1 : Int32) (x2 : Int32) (x3 : Int32) (h0 : gK τ x0 10) {Q : State → Prop} {K : ((gG)) → Prop} (hx0 : ∀ (G : gG) (H : Heap) (locs : List Loc) (ls : Array Slot), gHw X τ G H locs → lv_has ls 7 [(0, .ref x0), (1, .int x1), (2, .int x2), (3, .int x3)] → K G → W p l e rm_X10_tallyThrees s m args below meth c H locs 0 0 Q (F0 m 26 ls [])) : ∀ (k : Nat) (x4 : Int32) (G : gG) (H : Heap) (locs : List Loc) (ls : Array Slot), gHw X τ G H locs → lv_has ls 7 [(0, .ref x0), (1, .int x1), (2, .int x2), (3, .int x3), (4, .int x4)] → gOk (gIter (fun (q : Int32 × gG) => b_X10_tallyThrees_5 τ n x0 x1 x2 x3 q.1 q.2) k (x4, G)) K → W p l e rm_X10_tallyThrees s m args below meth c H locs 0 0 Q (F0 m 5 ls []) := by
  intro k
  induction k with
  | zero =>
    intro x4 G H locs ls hw hl hok
    exact gOk_iter0 hok
  | succ k hc =>
    intro x4 G H locs ls hw hl hok
    exact w_b_X10_tallyThrees_5 fx n x0 x1 x2 x3 x4 h0 hw hl (gOk_iter hok) hc hx0
set_option maxHeartbeats 4000000 in
set_option maxRecDepth 100000 in
theorem w_b_X10_tallyThrees_65 {X : gX} {τ : gτ} {p : Program} {l : Launch} {e : Env} {s : State} {m : MethodId} {args : Array Value} {below : List Frame} {meth : Method} {c : Code} (fx : gFx X p s m args meth c cX10_tallyThrees 7 RX10) (n : Nat) (x0 : Nat) (x1 : Int32) (x2 : Int32) (x3 : Int32) (x4 : Int32) (x5 : Int32) (x6 : Int32) (h0 : gK τ x0 10) {Q : State → Prop} {K : ((Int32 × Int32 × gG) ⊕ ((Int32 × gG))) → Prop} {G : gG} {H : Heap} {locs : List Loc} {ls : Array Slot} (hw : gHw X τ G H locs) (hl : lv_has ls 7 [(0, .ref x0), (1, .int x1), (2, .int x2), (3, .int x3), (4, .int x4), (5, .int x5), (6, .int x6)]) (hok : gOk (b_X10_tallyThrees_65 τ n x0 x1 x2 x3 x4 x5 x6 G) K) (hc : ∀ (y3 : Int32) (y6 : Int32) (G : gG) (H : Heap) (locs : List Loc) (ls : Array Slot), gHw X τ G H locs → lv_has ls 7 [(0, .ref x0), (1, .int x1), (2, .int x2), (3, .int y3), (4, .int x4), (5, .int x5), (6, .int y6)] → K (.inl (y3, y6, G)) → W p l e rm_X10_tallyThrees s m args below meth c H locs 0 0 Q (F0 m 65 ls [])) (hx0 : ∀ (y3 : Int32) (G : gG) (H : Heap) (locs : List Loc) (ls : Array Slot), gHw X τ G H locs → lv_has ls 7 [(0, .ref x0), (1, .int x1), (2, .int x2), (3, .int y3), (4, .int x4), (5, .int x5)] → K (.inr (y3, G)) → W p l e rm_X10_tallyThrees s m args below meth c H locs 0 0 Q (F0 m 153 ls [])) : W p l e rm_X10_tallyThrees s m args below meth c H locs 0 0 Q (F0 m 65 ls []) := by
  unfold b_X10_tallyThrees_65 at hok
  refine lv_iload fx.1 fx.2.1 dX10_tallyThrees_65 (lv_at hl 6 rfl) ?_
  refine lv_aload_n fx.1 fx.2.1 dX10_tallyThrees_67 rfl (lv_at hl 0 rfl) ?_
  refine g_getr fx hw h0 lf_RX10_70 rfl dX10_tallyThrees_68 hok (fun a9 h_a9 hok => ?_)
  refine g_geti fx hw h_a9 lf_RX10_296 rfl dX10_tallyThrees_71 ?_
  refine g_icmp_ge (tgt := 153) fx dX10_tallyThrees_74 (by decide) hok (fun hok => ?_) (fun hok => ?_)
  · exact hx0 x3 G _ _ _  hw (lv_sub hl [0, 1, 2, 3, 4, 5] rfl) (gOk_some hok)
  · refine lv_aload_n fx.1 fx.2.1 dX10_tallyThrees_77 rfl (lv_at hl 0 rfl) ?_
    refine g_getr fx hw h0 lf_RX10_70 rfl dX10_tallyThrees_78 hok (fun a10 h_a10 hok => ?_)
    refine lv_iload fx.1 fx.2.1 dX10_tallyThrees_81 (lv_at hl 4 rfl) ?_
    refine lv_iload fx.1 fx.2.1 dX10_tallyThrees_83 (lv_at hl 5 rfl) ?_
    refine lv_iload fx.1 fx.2.1 dX10_tallyThrees_85 (lv_at hl 6 rfl) ?_
    obtain ⟨v11, hf, hok⟩ := gOk_bind hok
    refine g_callV0 (κ := 6) fx hw (c_X6_strengthOf l X τ a10 x4 x5 x6 G h_a10 hf) lv_RX10_476 ⟨rfl, rfl⟩ rfl rfl h_a10 rfl hl.1 rfl ⟨Nat.le_of_ble_eq_true rfl, Nat.le_of_ble_eq_true rfl⟩ (Nat.le_of_ble_eq_true rfl) ⟨Nat.le_of_ble_eq_true rfl, Nat.le_of_ble_eq_true rfl⟩ dX10_tallyThrees_87 (fun H locs hw => ?_)
    refine lv_iload_n fx.1 fx.2.1 dX10_tallyThrees_90 rfl (lv_at hl 1 rfl) ?_
    refine g_icmp_ne (tgt := 147) fx dX10_tallyThrees_91 (by decide) hok (fun hok => ?_) (fun hok => ?_)
    · refine lv_aload_n fx.1 fx.2.1 dX10_tallyThrees_94 rfl (lv_at hl 0 rfl) ?_
      refine g_getr fx hw h0 lf_RX10_70 rfl dX10_tallyThrees_95 hok (fun a12 h_a12 hok => ?_)
      refine lv_iload fx.1 fx.2.1 dX10_tallyThrees_98 (lv_at hl 4 rfl) ?_
      refine lv_iload fx.1 fx.2.1 dX10_tallyThrees_100 (lv_at hl 5 rfl) ?_
      refine lv_iload fx.1 fx.2.1 dX10_tallyThrees_102 (lv_at hl 6 rfl) ?_
      obtain ⟨v13, hf, hok⟩ := gOk_bind hok
      refine g_callV0 (κ := 6) fx hw (c_X6_rotOf l X τ a12 x4 x5 x6 G h_a12 hf) lv_RX10_479 ⟨rfl, rfl⟩ rfl rfl h_a12 rfl hl.1 rfl ⟨Nat.le_of_ble_eq_true rfl, Nat.le_of_ble_eq_true rfl⟩ (Nat.le_of_ble_eq_true rfl) ⟨Nat.le_of_ble_eq_true rfl, Nat.le_of_ble_eq_true rfl⟩ dX10_tallyThrees_104 (fun H locs hw => ?_)
      refine lv_iload_n fx.1 fx.2.1 dX10_tallyThrees_107 rfl (lv_at hl 2 rfl) ?_
      refine g_icmp_ne (tgt := 147) fx dX10_tallyThrees_108 (by decide) hok (fun hok => ?_) (fun hok => ?_)
      · obtain ⟨v14, e_v14, hok⟩ := gOk_let hok
        refine lv_iinc (v := v14) (lv' := [(3, .int v14), (0, .ref x0), (1, .int x1), (2, .int x2), (4, .int x4), (5, .int x5), (6, .int x6)]) fx.1 fx.2.1 dX10_tallyThrees_111 hl (k := 3) rfl (by rw [e_v14]; rfl) (by decide) rfl (fun ls hl => ?_)
        refine lv_aload_n fx.1 fx.2.1 dX10_tallyThrees_114 rfl (lv_at hl 1 rfl) ?_
        refine g_getr fx hw h0 lf_RX10_67 rfl dX10_tallyThrees_115 hok (fun a15 h_a15 hok => ?_)
        refine lv_iload fx.1 fx.2.1 dX10_tallyThrees_118 (lv_at hl 4 rfl) ?_
        refine lv_dup2_11 fx.1 fx.2.1 dX10_tallyThrees_120 rfl rfl ?_
        refine g_iald fx hw h_a15 dX10_tallyThrees_121 hok (fun hok => ?_)
        refine lv_iconst (v := 1) fx.1 fx.2.1 dX10_tallyThrees_122 (by decide) ?_
        refine lv_iadd fx.1 fx.2.1 dX10_tallyThrees_123 ?_
        refine g_iast fx hw h_a15 dX10_tallyThrees_124 hok (fun G16 H locs hw hok => ?_)
        refine lv_aload_n fx.1 fx.2.1 dX10_tallyThrees_125 rfl (lv_at hl 1 rfl) ?_
        refine g_getr fx hw h0 lf_RX10_67 rfl dX10_tallyThrees_126 hok (fun a17 h_a17 hok => ?_)
        refine lv_iload fx.1 fx.2.1 dX10_tallyThrees_129 (lv_at hl 5 rfl) ?_
        refine lv_dup2_11 fx.1 fx.2.1 dX10_tallyThrees_131 rfl rfl ?_
        refine g_iald fx hw h_a17 dX10_tallyThrees_132 hok (fun hok => ?_)
        refine lv_iconst (v := 1) fx.1 fx.2.1 dX10_tallyThrees_133 (by decide) ?_
        refine lv_iadd fx.1 fx.2.1 dX10_tallyThrees_134 ?_
        refine g_iast fx hw h_a17 dX10_tallyThrees_135 hok (fun G18 H locs hw hok => ?_)
        refine lv_aload_n fx.1 fx.2.1 dX10_tallyThrees_136 rfl (lv_at hl 1 rfl) ?_
        refine g_getr fx hw h0 lf_RX10_67 rfl dX10_tallyThrees_137 hok (fun a19 h_a19 hok => ?_)
        refine lv_iload fx.1 fx.2.1 dX10_tallyThrees_140 (lv_at hl 6 rfl) ?_
        refine lv_dup2_11 fx.1 fx.2.1 dX10_tallyThrees_142 rfl rfl ?_
        refine g_iald fx hw h_a19 dX10_tallyThrees_143 hok (fun hok => ?_)
        refine lv_iconst (v := 1) fx.1 fx.2.1 dX10_tallyThrees_144 (by decide) ?_
        refine lv_iadd fx.1 fx.2.1 dX10_tallyThrees_145 ?_
        refine g_iast fx hw h_a19 dX10_tallyThrees_146 hok (fun G20 H locs hw hok => ?_)
        obtain ⟨v21, e_v21, hok⟩ := gOk_let hok
        refine lv_iinc (v := v21) (lv' := [(6, .int v21), (3, .int v14), (0, .ref x0), (1, .int x1), (2, .int x2), (4, .int x4), (5, .int x5)]) fx.1 fx.2.1 dX10_tallyThrees_147 hl (k := 6) rfl (by rw [e_v21]; rfl) (by decide) rfl (fun ls hl => ?_)
        refine lv_goto (tgt := 65) fx.1 fx.2.1 dX10_tallyThrees_150 (by decide) ?_
        exact hc v14 v21 G20 _ _ _  hw (lv_sub hl [2, 3, 4, 1, 5, 6, 0] rfl) (gOk_some hok)
      · obtain ⟨v22, e_v22, hok⟩ := gOk_let hok
        refine lv_iinc (v := v22) (lv' := [(6, .int v22), (0, .ref x0), (1, .int x1), (2, .int x2), (3, .int x3), (4, .int x4), (5, .int x5)]) fx.1 fx.2.1 dX10_tallyThrees_147 hl (k := 6) rfl (by rw [e_v22]; rfl) (by decide) rfl (fun ls hl => ?_)
        refine lv_goto (tgt := 65) fx.1 fx.2.1 dX10_tallyThrees_150 (by decide) ?_
        exact hc x3 v22 G _ _ _  hw (lv_sub hl [1, 2, 3, 4, 5, 6, 0] rfl) (gOk_some hok)
    · obtain ⟨v23, e_v23, hok⟩ := gOk_let hok
      refine lv_iinc (v := v23) (lv' := [(6, .int v23), (0, .ref x0), (1, .int x1), (2, .int x2), (3, .int x3), (4, .int x4), (5, .int x5)]) fx.1 fx.2.1 dX10_tallyThrees_147 hl (k := 6) rfl (by rw [e_v23]; rfl) (by decide) rfl (fun ls hl => ?_)
      refine lv_goto (tgt := 65) fx.1 fx.2.1 dX10_tallyThrees_150 (by decide) ?_
      exact hc x3 v23 G _ _ _  hw (lv_sub hl [1, 2, 3, 4, 5, 6, 0] rfl) (gOk_some hok)
theorem w_l_X10_tallyThrees_65 {X : gX} {τ : gτ} {p : Program} {l : Launch} {e : Env} {s : State} {m : MethodId} {args : Array Value} {below : List Frame} {meth : Method} {c : Code} (fx : gFx X p s m args meth c cX10_tallyThrees 7 RX10) (n : Nat) (x0 : Nat) (x1 : Int32) (x2 : Int32) (x4 : Int32) (x5 : Int32) (h0 : gK τ x0 10) {Q : State → Prop} {K : ((Int32 × gG)) → Prop} (hx0 : ∀ (y3 : Int32) (G : gG) (H : Heap) (locs : List Loc) (ls : Array Slot), gHw X τ G H locs → lv_has ls 7 [(0, .ref x0), (1, .int x1), (2, .int x2), (3, .int y3), (4, .int x4), (5, .int x5)] → K (y3, G) → W p l e rm_X10_tallyThrees s m args below meth c H locs 0 0 Q (F0 m 153 ls [])) : ∀ (k : Nat) (x3 : Int32) (x6 : Int32) (G : gG) (H : Heap) (locs : List Loc) (ls : Array Slot), gHw X τ G H locs → lv_has ls 7 [(0, .ref x0), (1, .int x1), (2, .int x2), (3, .int x3), (4, .int x4), (5, .int x5), (6, .int x6)] → gOk (gIter (fun (q : Int32 × Int32 × gG) => b_X10_tallyThrees_65 τ n x0 x1 x2 q.1 x4 x5 q.2.1 q.2.2) k (x3, x6, G)) K → W p l e rm_X10_tallyThrees s m args below meth c H locs 0 0 Q (F0 m 65 ls []) := by
  intro k
  induction k with
  | zero =>
    intro x3 x6 G H locs ls hw hl hok
    exact gOk_iter0 hok
  | succ k hc =>
    intro x3 x6 G H locs ls hw hl hok
    exact w_b_X10_tallyThrees_65 fx n x0 x1 x2 x3 x4 x5 x6 h0 hw hl (gOk_iter hok) hc hx0
set_option maxHeartbeats 4000000 in
set_option maxRecDepth 100000 in
theorem w_b_X10_tallyThrees_47 {X : gX} {τ : gτ} {p : Program} {l : Launch} {e : Env} {s : State} {m : MethodId} {args : Array Value} {below : List Frame} {meth : Method} {c : Code} (fx : gFx X p s m args meth c cX10_tallyThrees 7 RX10) (n : Nat) (x0 : Nat) (x1 : Int32) (x2 : Int32) (x3 : Int32) (x4 : Int32) (x5 : Int32) (h0 : gK τ x0 10) {Q : State → Prop} {K : ((Int32 × Int32 × gG) ⊕ ((Int32 × gG))) → Prop} {G : gG} {H : Heap} {locs : List Loc} {ls : Array Slot} (hw : gHw X τ G H locs) (hl : lv_has ls 7 [(0, .ref x0), (1, .int x1), (2, .int x2), (3, .int x3), (4, .int x4), (5, .int x5)]) (hok : gOk (b_X10_tallyThrees_47 τ n x0 x1 x2 x3 x4 x5 G) K) (hc : ∀ (y3 : Int32) (y5 : Int32) (G : gG) (H : Heap) (locs : List Loc) (ls : Array Slot), gHw X τ G H locs → lv_has ls 7 [(0, .ref x0), (1, .int x1), (2, .int x2), (3, .int y3), (4, .int x4), (5, .int y5)] → K (.inl (y3, y5, G)) → W p l e rm_X10_tallyThrees s m args below meth c H locs 0 0 Q (F0 m 47 ls [])) (hx0 : ∀ (y3 : Int32) (G : gG) (H : Heap) (locs : List Loc) (ls : Array Slot), gHw X τ G H locs → lv_has ls 7 [(0, .ref x0), (1, .int x1), (2, .int x2), (3, .int y3), (4, .int x4)] → K (.inr (y3, G)) → W p l e rm_X10_tallyThrees s m args below meth c H locs 0 0 Q (F0 m 159 ls [])) : W p l e rm_X10_tallyThrees s m args below meth c H locs 0 0 Q (F0 m 47 ls []) := by
  unfold b_X10_tallyThrees_47 at hok
  refine lv_iload fx.1 fx.2.1 dX10_tallyThrees_47 (lv_at hl 5 rfl) ?_
  refine lv_aload_n fx.1 fx.2.1 dX10_tallyThrees_49 rfl (lv_at hl 0 rfl) ?_
  refine g_getr fx hw h0 lf_RX10_70 rfl dX10_tallyThrees_50 hok (fun a7 h_a7 hok => ?_)
  refine g_geti fx hw h_a7 lf_RX10_296 rfl dX10_tallyThrees_53 ?_
  refine g_icmp_ge (tgt := 159) fx dX10_tallyThrees_56 (by decide) hok (fun hok => ?_) (fun hok => ?_)
  · exact hx0 x3 G _ _ _  hw (lv_sub hl [0, 1, 2, 3, 4] rfl) (gOk_some hok)
  · refine lv_iload fx.1 fx.2.1 dX10_tallyThrees_59 (lv_at hl 5 rfl) ?_
    refine lv_iconst (v := 1) fx.1 fx.2.1 dX10_tallyThrees_61 (by decide) ?_
    refine lv_iadd fx.1 fx.2.1 dX10_tallyThrees_62 ?_
    refine g_leti hok (fun v8 hok => ?_)
    refine lv_istore (lv' := [(6, .int v8), (0, .ref x0), (1, .int x1), (2, .int x2), (3, .int x3), (4, .int x4), (5, .int x5)]) fx.1 fx.2.1 dX10_tallyThrees_63 hl (by decide) rfl (fun ls hl => ?_)
    refine w_l_X10_tallyThrees_65 fx n x0 x1 x2 x4 x5 h0 ?_ n x3 v8 G _ _ _  hw (lv_sub hl [1, 2, 3, 4, 5, 6, 0] rfl) (gOk_bindK hok)
    intro z24 G25 H locs ls hw hl hok
    have hok : gOk (ρ := (Int32 × Int32 × gG) ⊕ ((Int32 × gG))) (gLet (x5 + 1) fun v26 =>   some (.inl (z24, v26, G25))) _ := hok
    obtain ⟨v26, e_v26, hok⟩ := gOk_let hok
    refine lv_iinc (v := v26) (lv' := [(5, .int v26), (0, .ref x0), (1, .int x1), (2, .int x2), (3, .int z24), (4, .int x4)]) fx.1 fx.2.1 dX10_tallyThrees_153 hl (k := 5) rfl (by rw [e_v26]; rfl) (by decide) rfl (fun ls hl => ?_)
    refine lv_goto (tgt := 47) fx.1 fx.2.1 dX10_tallyThrees_156 (by decide) ?_
    exact hc z24 v26 G25 _ _ _  hw (lv_sub hl [1, 2, 3, 4, 5, 0] rfl) (gOk_some hok)
theorem w_l_X10_tallyThrees_47 {X : gX} {τ : gτ} {p : Program} {l : Launch} {e : Env} {s : State} {m : MethodId} {args : Array Value} {below : List Frame} {meth : Method} {c : Code} (fx : gFx X p s m args meth c cX10_tallyThrees 7 RX10) (n : Nat) (x0 : Nat) (x1 : Int32) (x2 : Int32) (x4 : Int32) (h0 : gK τ x0 10) {Q : State → Prop} {K : ((Int32 × gG)) → Prop} (hx0 : ∀ (y3 : Int32) (G : gG) (H : Heap) (locs : List Loc) (ls : Array Slot), gHw X τ G H locs → lv_has ls 7 [(0, .ref x0), (1, .int x1), (2, .int x2), (3, .int y3), (4, .int x4)] → K (y3, G) → W p l e rm_X10_tallyThrees s m args below meth c H locs 0 0 Q (F0 m 159 ls [])) : ∀ (k : Nat) (x3 : Int32) (x5 : Int32) (G : gG) (H : Heap) (locs : List Loc) (ls : Array Slot), gHw X τ G H locs → lv_has ls 7 [(0, .ref x0), (1, .int x1), (2, .int x2), (3, .int x3), (4, .int x4), (5, .int x5)] → gOk (gIter (fun (q : Int32 × Int32 × gG) => b_X10_tallyThrees_47 τ n x0 x1 x2 q.1 x4 q.2.1 q.2.2) k (x3, x5, G)) K → W p l e rm_X10_tallyThrees s m args below meth c H locs 0 0 Q (F0 m 47 ls []) := by
  intro k
  induction k with
  | zero =>
    intro x3 x5 G H locs ls hw hl hok
    exact gOk_iter0 hok
  | succ k hc =>
    intro x3 x5 G H locs ls hw hl hok
    exact w_b_X10_tallyThrees_47 fx n x0 x1 x2 x3 x4 x5 h0 hw hl (gOk_iter hok) hc hx0
set_option maxHeartbeats 4000000 in
set_option maxRecDepth 100000 in
theorem w_b_X10_tallyThrees_29 {X : gX} {τ : gτ} {p : Program} {l : Launch} {e : Env} {s : State} {m : MethodId} {args : Array Value} {below : List Frame} {meth : Method} {c : Code} (fx : gFx X p s m args meth c cX10_tallyThrees 7 RX10) (n : Nat) (x0 : Nat) (x1 : Int32) (x2 : Int32) (x3 : Int32) (x4 : Int32) (h0 : gK τ x0 10) {Q : State → Prop} {K : ((Int32 × Int32 × gG) ⊕ ((Int32 × gG))) → Prop} {G : gG} {H : Heap} {locs : List Loc} {ls : Array Slot} (hw : gHw X τ G H locs) (hl : lv_has ls 7 [(0, .ref x0), (1, .int x1), (2, .int x2), (3, .int x3), (4, .int x4)]) (hok : gOk (b_X10_tallyThrees_29 τ n x0 x1 x2 x3 x4 G) K) (hc : ∀ (y3 : Int32) (y4 : Int32) (G : gG) (H : Heap) (locs : List Loc) (ls : Array Slot), gHw X τ G H locs → lv_has ls 7 [(0, .ref x0), (1, .int x1), (2, .int x2), (3, .int y3), (4, .int y4)] → K (.inl (y3, y4, G)) → W p l e rm_X10_tallyThrees s m args below meth c H locs 0 0 Q (F0 m 29 ls [])) (hx0 : ∀ (y3 : Int32) (G : gG) (H : Heap) (locs : List Loc) (ls : Array Slot), gHw X τ G H locs → lv_has ls 7 [(3, .int y3)] → K (.inr (y3, G)) → W p l e rm_X10_tallyThrees s m args below meth c H locs 0 0 Q (F0 m 165 ls [])) : W p l e rm_X10_tallyThrees s m args below meth c H locs 0 0 Q (F0 m 29 ls []) := by
  unfold b_X10_tallyThrees_29 at hok
  refine lv_iload fx.1 fx.2.1 dX10_tallyThrees_29 (lv_at hl 4 rfl) ?_
  refine lv_aload_n fx.1 fx.2.1 dX10_tallyThrees_31 rfl (lv_at hl 0 rfl) ?_
  refine g_getr fx hw h0 lf_RX10_70 rfl dX10_tallyThrees_32 hok (fun a5 h_a5 hok => ?_)
  refine g_geti fx hw h_a5 lf_RX10_296 rfl dX10_tallyThrees_35 ?_
  refine g_icmp_ge (tgt := 165) fx dX10_tallyThrees_38 (by decide) hok (fun hok => ?_) (fun hok => ?_)
  · exact hx0 x3 G _ _ _  hw (lv_sub hl [3] rfl) (gOk_some hok)
  · refine lv_iload fx.1 fx.2.1 dX10_tallyThrees_41 (lv_at hl 4 rfl) ?_
    refine lv_iconst (v := 1) fx.1 fx.2.1 dX10_tallyThrees_43 (by decide) ?_
    refine lv_iadd fx.1 fx.2.1 dX10_tallyThrees_44 ?_
    refine g_leti hok (fun v6 hok => ?_)
    refine lv_istore (lv' := [(5, .int v6), (0, .ref x0), (1, .int x1), (2, .int x2), (3, .int x3), (4, .int x4)]) fx.1 fx.2.1 dX10_tallyThrees_45 hl (by decide) rfl (fun ls hl => ?_)
    refine w_l_X10_tallyThrees_47 fx n x0 x1 x2 x4 h0 ?_ n x3 v6 G _ _ _  hw (lv_sub hl [1, 2, 3, 4, 5, 0] rfl) (gOk_bindK hok)
    intro z27 G28 H locs ls hw hl hok
    have hok : gOk (ρ := (Int32 × Int32 × gG) ⊕ ((Int32 × gG))) (gLet (x4 + 1) fun v29 =>   some (.inl (z27, v29, G28))) _ := hok
    obtain ⟨v29, e_v29, hok⟩ := gOk_let hok
    refine lv_iinc (v := v29) (lv' := [(4, .int v29), (0, .ref x0), (1, .int x1), (2, .int x2), (3, .int z27)]) fx.1 fx.2.1 dX10_tallyThrees_159 hl (k := 4) rfl (by rw [e_v29]; rfl) (by decide) rfl (fun ls hl => ?_)
    refine lv_goto (tgt := 29) fx.1 fx.2.1 dX10_tallyThrees_162 (by decide) ?_
    exact hc z27 v29 G28 _ _ _  hw (lv_sub hl [1, 2, 3, 4, 0] rfl) (gOk_some hok)
theorem w_l_X10_tallyThrees_29 {X : gX} {τ : gτ} {p : Program} {l : Launch} {e : Env} {s : State} {m : MethodId} {args : Array Value} {below : List Frame} {meth : Method} {c : Code} (fx : gFx X p s m args meth c cX10_tallyThrees 7 RX10) (n : Nat) (x0 : Nat) (x1 : Int32) (x2 : Int32) (h0 : gK τ x0 10) {Q : State → Prop} {K : ((Int32 × gG)) → Prop} (hx0 : ∀ (y3 : Int32) (G : gG) (H : Heap) (locs : List Loc) (ls : Array Slot), gHw X τ G H locs → lv_has ls 7 [(3, .int y3)] → K (y3, G) → W p l e rm_X10_tallyThrees s m args below meth c H locs 0 0 Q (F0 m 165 ls [])) : ∀ (k : Nat) (x3 : Int32) (x4 : Int32) (G : gG) (H : Heap) (locs : List Loc) (ls : Array Slot), gHw X τ G H locs → lv_has ls 7 [(0, .ref x0), (1, .int x1), (2, .int x2), (3, .int x3), (4, .int x4)] → gOk (gIter (fun (q : Int32 × Int32 × gG) => b_X10_tallyThrees_29 τ n x0 x1 x2 q.1 q.2.1 q.2.2) k (x3, x4, G)) K → W p l e rm_X10_tallyThrees s m args below meth c H locs 0 0 Q (F0 m 29 ls []) := by
  intro k
  induction k with
  | zero =>
    intro x3 x4 G H locs ls hw hl hok
    exact gOk_iter0 hok
  | succ k hc =>
    intro x3 x4 G H locs ls hw hl hok
    exact w_b_X10_tallyThrees_29 fx n x0 x1 x2 x3 x4 h0 hw hl (gOk_iter hok) hc hx0
set_option maxHeartbeats 4000000 in
set_option maxRecDepth 100000 in
theorem w_X10_tallyThrees_26 {X : gX} {τ : gτ} {p : Program} {l : Launch} {e : Env} {s : State} {m : MethodId} {args : Array Value} {below : List Frame} {meth : Method} {c : Code} (fx : gFx X p s m args meth c cX10_tallyThrees 7 RX10) (n : Nat) (x0 : Nat) (x1 : Int32) (x2 : Int32) (x3 : Int32)  (h0 : gK τ x0 10)  (hr : meth.sig.returnType = (some .int)) {r : Int32} {G' : gG} {G : gG} {H : Heap} {locs : List Loc} {ls : Array Slot} (hw : gHw X τ G H locs) (hl : lv_has ls 7 [(0, .ref x0), (1, .int x1), (2, .int x2), (3, .int x3)]) (hok : gOk (k_X10_tallyThrees_26 τ n x0 x1 x2 x3  G) (fun q => q = (r, G')))  : W p l e rm_X10_tallyThrees s m args below meth c H locs 0 0 (MQ below (gQ X τ (some (.int r)) G') args s 0 0 (gFree X)) (F0 m 26 ls []) := by
  unfold k_X10_tallyThrees_26 at hok
  refine lv_iconst (v := 0) fx.1 fx.2.1 dX10_tallyThrees_26 (by decide) ?_
  refine lv_istore (lv' := [(4, .int (0 : Int32)), (0, .ref x0), (1, .int x1), (2, .int x2), (3, .int x3)]) fx.1 fx.2.1 dX10_tallyThrees_27 hl (by decide) rfl (fun ls hl => ?_)
  refine w_l_X10_tallyThrees_29 fx n x0 x1 x2 h0 ?_ n x3 (0 : Int32) G _ _ _  hw (lv_sub hl [1, 2, 3, 4, 0] rfl) (gOk_bindK hok)
  intro z30 G31 H locs ls hw hl hok
  have hok : gOk (ρ := Int32 × gG) (some (z30, G31)) _ := hok
  refine lv_iload_n fx.1 fx.2.1 dX10_tallyThrees_165 rfl (lv_at hl 0 rfl) ?_
  cases gOk_some hok
  exact g_iret fx hw hr dX10_tallyThrees_166
set_option maxHeartbeats 4000000 in
set_option maxRecDepth 100000 in
theorem c_X10_tallyThrees (l : Launch) (X : gX) (τ : gτ) (n : Nat) (x0 : Nat) (x1 : Int32) (x2 : Int32) (G : gG) (h0 : gK τ x0 10) {r : Int32} {G' : gG} (h : f_X10_tallyThrees τ n x0 x1 x2 G = some (r, G')) : gM l X τ yX10_tallyThrees cX10_tallyThrees 7 (some .int) rm_X10_tallyThrees [.ref x0, .int x1, .int x2] G (some (.int r)) G' := by
  refine g_body (by decide +kernel) (Nat.le_of_ble_eq_true rfl) ?_
  intro p e s m args below meth c ls fx hr hw hl
  have fx : gFx X p s m args meth c cX10_tallyThrees 7 RX10 := fx
  have hl : lv_has ls 7 [(0, .ref x0), (1, .int x1), (2, .int x2)] := hl
  have hok : gOk (f_X10_tallyThrees τ n x0 x1 x2 G) (fun q => q = (r, G')) := ⟨_, h, rfl⟩
  unfold f_X10_tallyThrees at hok
  show W p l e rm_X10_tallyThrees s m args below meth c s.heap [] 0 0 (MQ below (gQ X τ (some (.int r)) G') args s 0 0 (gFree X)) _
  refine lv_iconst (v := 0) fx.1 fx.2.1 dX10_tallyThrees_0 (by decide) ?_
  refine lv_istore_n (lv' := [(3, .int (0 : Int32)), (0, .ref x0), (1, .int x1), (2, .int x2)]) fx.1 fx.2.1 dX10_tallyThrees_1 rfl hl (by decide) rfl (fun ls hl => ?_)
  refine lv_iconst (v := 0) fx.1 fx.2.1 dX10_tallyThrees_2 (by decide) ?_
  refine lv_istore (lv' := [(4, .int (0 : Int32)), (3, .int (0 : Int32)), (0, .ref x0), (1, .int x1), (2, .int x2)]) fx.1 fx.2.1 dX10_tallyThrees_3 hl (by decide) rfl (fun ls hl => ?_)
  refine w_l_X10_tallyThrees_5 fx n x0 x1 x2 (0 : Int32) h0 ?_ n (0 : Int32) G _ _ _  hw (lv_sub hl [2, 3, 4, 1, 0] rfl) (gOk_bindK hok)
  intro G4 H locs ls hw hl hok
  have hok : gOk (ρ := Int32 × gG) (k_X10_tallyThrees_26 τ n x0 x1 x2 (0 : Int32)  G4) _ := hok
  exact w_X10_tallyThrees_26 fx n x0 x1 x2 (0 : Int32)  h0  hr hw (lv_sub hl [0, 1, 2, 3] rfl) hok
theorem dX10_sureYarns_0 : decode cX10_sureYarns 0 = .ok (.iconst 0, 1) := by decide +kernel
theorem dX10_sureYarns_1 : decode cX10_sureYarns 1 = .ok (.istore_n 2, 1) := by decide +kernel
theorem dX10_sureYarns_2 : decode cX10_sureYarns 2 = .ok (.iconst 0, 1) := by decide +kernel
theorem dX10_sureYarns_3 : decode cX10_sureYarns 3 = .ok (.istore_n 3, 1) := by decide +kernel
theorem dX10_sureYarns_4 : decode cX10_sureYarns 4 = .ok (.iload_n 3, 1) := by decide +kernel
theorem dX10_sureYarns_5 : decode cX10_sureYarns 5 = .ok (.aload_n 0, 1) := by decide +kernel
theorem dX10_sureYarns_6 : decode cX10_sureYarns 6 = .ok (.getfield 70, 3) := by decide +kernel
theorem dX10_sureYarns_9 : decode cX10_sureYarns 9 = .ok (.getfield 296, 3) := by decide +kernel
theorem dX10_sureYarns_12 : decode cX10_sureYarns 12 = .ok (.if_icmp .ge 29, 3) := by decide +kernel
theorem dX10_sureYarns_15 : decode cX10_sureYarns 15 = .ok (.iload_n 1, 1) := by decide +kernel
theorem dX10_sureYarns_16 : decode cX10_sureYarns 16 = .ok (.ifCond .le 19, 3) := by decide +kernel
theorem dX10_sureYarns_19 : decode cX10_sureYarns 19 = .ok (.aload_n 0, 1) := by decide +kernel
theorem dX10_sureYarns_20 : decode cX10_sureYarns 20 = .ok (.getfield 67, 3) := by decide +kernel
theorem dX10_sureYarns_23 : decode cX10_sureYarns 23 = .ok (.iload_n 3, 1) := by decide +kernel
theorem dX10_sureYarns_24 : decode cX10_sureYarns 24 = .ok (.iaload, 1) := by decide +kernel
theorem dX10_sureYarns_25 : decode cX10_sureYarns 25 = .ok (.iload_n 1, 1) := by decide +kernel
theorem dX10_sureYarns_26 : decode cX10_sureYarns 26 = .ok (.if_icmp .ne 9, 3) := by decide +kernel
theorem dX10_sureYarns_29 : decode cX10_sureYarns 29 = .ok (.iload_n 2, 1) := by decide +kernel
theorem dX10_sureYarns_30 : decode cX10_sureYarns 30 = .ok (.iconst 1, 1) := by decide +kernel
theorem dX10_sureYarns_31 : decode cX10_sureYarns 31 = .ok (.iload_n 3, 1) := by decide +kernel
theorem dX10_sureYarns_32 : decode cX10_sureYarns 32 = .ok (.ishl, 1) := by decide +kernel
theorem dX10_sureYarns_33 : decode cX10_sureYarns 33 = .ok (.ior, 1) := by decide +kernel
theorem dX10_sureYarns_34 : decode cX10_sureYarns 34 = .ok (.istore_n 2, 1) := by decide +kernel
theorem dX10_sureYarns_35 : decode cX10_sureYarns 35 = .ok (.iinc 3 1, 3) := by decide +kernel
theorem dX10_sureYarns_38 : decode cX10_sureYarns 38 = .ok (.goto (-34), 3) := by decide +kernel
theorem dX10_sureYarns_41 : decode cX10_sureYarns 41 = .ok (.iload_n 2, 1) := by decide +kernel
theorem dX10_sureYarns_42 : decode cX10_sureYarns 42 = .ok (.ireturn, 1) := by decide +kernel
def rm_X10_sureYarns : Room := { frames := 0, cells := 0, slots := 0, locals := 0 }
def b_X10_sureYarns_4 (τ : gτ) (n : Nat) (x0 : Nat) (x1 : Int32) (x2 : Int32) (x3 : Int32) (G : gG) : Option ((Int32 × Int32) ⊕ ((Int32))) :=
  (gr G 10 10 x0).bind fun a1 =>
  if (gi G 6 4 a1) ≤ x3 then (some (.inr x2))
  else (if x1 ≤ 0 then (gLet (x3 + 1) fun v2 =>
  some (.inl (x2, v2)))
  else ((gr G 10 9 x0).bind fun a3 =>
  gchk (gIn x3 (gn τ a3)) <|
  if (ge G a3 (Int32.toNatClampNeg x3)) = x1 then (gLet (x2 ||| ((1 : Int32) <<< (x3 &&& 31))) fun v4 =>
  gLet (x3 + 1) fun v5 =>
  some (.inl (v4, v5)))
  else (gLet (x3 + 1) fun v6 =>
  some (.inl (x2, v6)))))
def l_X10_sureYarns_4 (τ : gτ) (n : Nat) (x0 : Nat) (x1 : Int32) (x2 : Int32) (x3 : Int32) (G : gG) : Option ((Int32)) :=
  gIter (fun (q : Int32 × Int32) => b_X10_sureYarns_4 τ n x0 x1 q.1 q.2 G) n (x2, x3)
def f_X10_sureYarns (τ : gτ) (n : Nat) (x0 : Nat) (x1 : Int32) (G : gG) : Option (Int32) :=
  (l_X10_sureYarns_4 τ n x0 x1 (0 : Int32) (0 : Int32) G).bind fun q => gLet q fun z7 => 
  some (z7)
set_option maxHeartbeats 4000000 in
set_option maxRecDepth 100000 in
theorem w_b_X10_sureYarns_4 {X : gX} {τ : gτ} {p : Program} {l : Launch} {e : Env} {s : State} {m : MethodId} {args : Array Value} {below : List Frame} {meth : Method} {c : Code} (fx : gFx X p s m args meth c cX10_sureYarns 4 RX10) (n : Nat) (x0 : Nat) (x1 : Int32) (x2 : Int32) (x3 : Int32) (h0 : gK τ x0 10) {Q : State → Prop} {K : ((Int32 × Int32) ⊕ ((Int32))) → Prop} {G : gG} {H : Heap} {locs : List Loc} {ls : Array Slot} (hw : gHw X τ G H locs) (hl : lv_has ls 4 [(0, .ref x0), (1, .int x1), (2, .int x2), (3, .int x3)]) (hok : gOk (b_X10_sureYarns_4 τ n x0 x1 x2 x3 G) K) (hc : ∀ (y2 : Int32) (y3 : Int32) (H : Heap) (locs : List Loc) (ls : Array Slot), gHw X τ G H locs → lv_has ls 4 [(0, .ref x0), (1, .int x1), (2, .int y2), (3, .int y3)] → K (.inl (y2, y3)) → W p l e rm_X10_sureYarns s m args below meth c H locs 0 0 Q (F0 m 4 ls [])) (hx0 : ∀ (y2 : Int32) (H : Heap) (locs : List Loc) (ls : Array Slot), gHw X τ G H locs → lv_has ls 4 [(2, .int y2)] → K (.inr y2) → W p l e rm_X10_sureYarns s m args below meth c H locs 0 0 Q (F0 m 41 ls [])) : W p l e rm_X10_sureYarns s m args below meth c H locs 0 0 Q (F0 m 4 ls []) := by
  unfold b_X10_sureYarns_4 at hok
  refine lv_iload_n fx.1 fx.2.1 dX10_sureYarns_4 rfl (lv_at hl 3 rfl) ?_
  refine lv_aload_n fx.1 fx.2.1 dX10_sureYarns_5 rfl (lv_at hl 0 rfl) ?_
  refine g_getr fx hw h0 lf_RX10_70 rfl dX10_sureYarns_6 hok (fun a1 h_a1 hok => ?_)
  refine g_geti fx hw h_a1 lf_RX10_296 rfl dX10_sureYarns_9 ?_
  refine g_icmp_ge (tgt := 41) fx dX10_sureYarns_12 (by decide) hok (fun hok => ?_) (fun hok => ?_)
  · exact hx0 x2  _ _ _  hw (lv_sub hl [2] rfl) (gOk_some hok)
  · refine lv_iload_n fx.1 fx.2.1 dX10_sureYarns_15 rfl (lv_at hl 1 rfl) ?_
    refine g_if_le (tgt := 35) fx dX10_sureYarns_16 (by decide) hok (fun hok => ?_) (fun hok => ?_)
    · obtain ⟨v2, e_v2, hok⟩ := gOk_let hok
      refine lv_iinc (v := v2) (lv' := [(3, .int v2), (0, .ref x0), (1, .int x1), (2, .int x2)]) fx.1 fx.2.1 dX10_sureYarns_35 hl (k := 3) rfl (by rw [e_v2]; rfl) (by decide) rfl (fun ls hl => ?_)
      refine lv_goto (tgt := 4) fx.1 fx.2.1 dX10_sureYarns_38 (by decide) ?_
      exact hc x2 v2  _ _ _  hw (lv_sub hl [1, 2, 3, 0] rfl) (gOk_some hok)
    · refine lv_aload_n fx.1 fx.2.1 dX10_sureYarns_19 rfl (lv_at hl 0 rfl) ?_
      refine g_getr fx hw h0 lf_RX10_67 rfl dX10_sureYarns_20 hok (fun a3 h_a3 hok => ?_)
      refine lv_iload_n fx.1 fx.2.1 dX10_sureYarns_23 rfl (lv_at hl 3 rfl) ?_
      refine g_iald fx hw h_a3 dX10_sureYarns_24 hok (fun hok => ?_)
      refine lv_iload_n fx.1 fx.2.1 dX10_sureYarns_25 rfl (lv_at hl 1 rfl) ?_
      refine g_icmp_ne (tgt := 35) fx dX10_sureYarns_26 (by decide) hok (fun hok => ?_) (fun hok => ?_)
      · refine lv_iload_n fx.1 fx.2.1 dX10_sureYarns_29 rfl (lv_at hl 2 rfl) ?_
        refine lv_iconst (v := 1) fx.1 fx.2.1 dX10_sureYarns_30 (by decide) ?_
        refine lv_iload_n fx.1 fx.2.1 dX10_sureYarns_31 rfl (lv_at hl 3 rfl) ?_
        refine lv_ishl fx.1 fx.2.1 dX10_sureYarns_32 ?_
        refine lv_ior fx.1 fx.2.1 dX10_sureYarns_33 ?_
        refine g_leti hok (fun v4 hok => ?_)
        refine lv_istore_n (lv' := [(2, .int v4), (0, .ref x0), (1, .int x1), (3, .int x3)]) fx.1 fx.2.1 dX10_sureYarns_34 rfl hl (by decide) rfl (fun ls hl => ?_)
        obtain ⟨v5, e_v5, hok⟩ := gOk_let hok
        refine lv_iinc (v := v5) (lv' := [(3, .int v5), (2, .int v4), (0, .ref x0), (1, .int x1)]) fx.1 fx.2.1 dX10_sureYarns_35 hl (k := 3) rfl (by rw [e_v5]; rfl) (by decide) rfl (fun ls hl => ?_)
        refine lv_goto (tgt := 4) fx.1 fx.2.1 dX10_sureYarns_38 (by decide) ?_
        exact hc v4 v5  _ _ _  hw (lv_sub hl [2, 3, 1, 0] rfl) (gOk_some hok)
      · obtain ⟨v6, e_v6, hok⟩ := gOk_let hok
        refine lv_iinc (v := v6) (lv' := [(3, .int v6), (0, .ref x0), (1, .int x1), (2, .int x2)]) fx.1 fx.2.1 dX10_sureYarns_35 hl (k := 3) rfl (by rw [e_v6]; rfl) (by decide) rfl (fun ls hl => ?_)
        refine lv_goto (tgt := 4) fx.1 fx.2.1 dX10_sureYarns_38 (by decide) ?_
        exact hc x2 v6  _ _ _  hw (lv_sub hl [1, 2, 3, 0] rfl) (gOk_some hok)
theorem w_l_X10_sureYarns_4 {X : gX} {τ : gτ} {p : Program} {l : Launch} {e : Env} {s : State} {m : MethodId} {args : Array Value} {below : List Frame} {meth : Method} {c : Code} (fx : gFx X p s m args meth c cX10_sureYarns 4 RX10) (n : Nat) (x0 : Nat) (x1 : Int32) (h0 : gK τ x0 10) (G : gG) {Q : State → Prop} {K : ((Int32)) → Prop} (hx0 : ∀ (y2 : Int32) (H : Heap) (locs : List Loc) (ls : Array Slot), gHw X τ G H locs → lv_has ls 4 [(2, .int y2)] → K y2 → W p l e rm_X10_sureYarns s m args below meth c H locs 0 0 Q (F0 m 41 ls [])) : ∀ (k : Nat) (x2 : Int32) (x3 : Int32) (H : Heap) (locs : List Loc) (ls : Array Slot), gHw X τ G H locs → lv_has ls 4 [(0, .ref x0), (1, .int x1), (2, .int x2), (3, .int x3)] → gOk (gIter (fun (q : Int32 × Int32) => b_X10_sureYarns_4 τ n x0 x1 q.1 q.2 G) k (x2, x3)) K → W p l e rm_X10_sureYarns s m args below meth c H locs 0 0 Q (F0 m 4 ls []) := by
  intro k
  induction k with
  | zero =>
    intro x2 x3  H locs ls hw hl hok
    exact gOk_iter0 hok
  | succ k hc =>
    intro x2 x3  H locs ls hw hl hok
    exact w_b_X10_sureYarns_4 fx n x0 x1 x2 x3 h0 hw hl (gOk_iter hok) hc hx0
set_option maxHeartbeats 4000000 in
set_option maxRecDepth 100000 in
theorem c_X10_sureYarns (l : Launch) (X : gX) (τ : gτ) (n : Nat) (x0 : Nat) (x1 : Int32) (G : gG) (h0 : gK τ x0 10) {r : Int32}  (h : f_X10_sureYarns τ n x0 x1 G = some r) : gM l X τ yX10_sureYarns cX10_sureYarns 4 (some .int) rm_X10_sureYarns [.ref x0, .int x1] G (some (.int r)) G := by
  refine g_body (by decide +kernel) (Nat.le_of_ble_eq_true rfl) ?_
  intro p e s m args below meth c ls fx hr hw hl
  have fx : gFx X p s m args meth c cX10_sureYarns 4 RX10 := fx
  have hl : lv_has ls 4 [(0, .ref x0), (1, .int x1)] := hl
  have hok : gOk (f_X10_sureYarns τ n x0 x1 G) (fun q => q = r) := ⟨_, h, rfl⟩
  unfold f_X10_sureYarns at hok
  show W p l e rm_X10_sureYarns s m args below meth c s.heap [] 0 0 (MQ below (gQ X τ (some (.int r)) G) args s 0 0 (gFree X)) _
  refine lv_iconst (v := 0) fx.1 fx.2.1 dX10_sureYarns_0 (by decide) ?_
  refine lv_istore_n (lv' := [(2, .int (0 : Int32)), (0, .ref x0), (1, .int x1)]) fx.1 fx.2.1 dX10_sureYarns_1 rfl hl (by decide) rfl (fun ls hl => ?_)
  refine lv_iconst (v := 0) fx.1 fx.2.1 dX10_sureYarns_2 (by decide) ?_
  refine lv_istore_n (lv' := [(3, .int (0 : Int32)), (2, .int (0 : Int32)), (0, .ref x0), (1, .int x1)]) fx.1 fx.2.1 dX10_sureYarns_3 rfl hl (by decide) rfl (fun ls hl => ?_)
  refine w_l_X10_sureYarns_4 fx n x0 x1 h0 G ?_ n (0 : Int32) (0 : Int32)  _ _ _  hw (lv_sub hl [2, 3, 1, 0] rfl) (gOk_bindK hok)
  intro z7  H locs ls hw hl hok
  have hok : gOk (ρ := Int32) (some (z7)) _ := hok
  refine lv_iload_n fx.1 fx.2.1 dX10_sureYarns_41 rfl (lv_at hl 0 rfl) ?_
  cases gOk_some hok
  exact g_iret fx hw hr dX10_sureYarns_42
theorem dX10_yarnToAsk_0 : decode cX10_yarnToAsk 0 = .ok (.iconst (-1), 1) := by decide +kernel
theorem dX10_yarnToAsk_1 : decode cX10_yarnToAsk 1 = .ok (.istore_n 2, 1) := by decide +kernel
theorem dX10_yarnToAsk_2 : decode cX10_yarnToAsk 2 = .ok (.iload_n 1, 1) := by decide +kernel
theorem dX10_yarnToAsk_3 : decode cX10_yarnToAsk 3 = .ok (.iconst 1, 1) := by decide +kernel
theorem dX10_yarnToAsk_4 : decode cX10_yarnToAsk 4 = .ok (.iadd, 1) := by decide +kernel
theorem dX10_yarnToAsk_5 : decode cX10_yarnToAsk 5 = .ok (.istore_n 3, 1) := by decide +kernel
theorem dX10_yarnToAsk_6 : decode cX10_yarnToAsk 6 = .ok (.iconst 0, 1) := by decide +kernel
theorem dX10_yarnToAsk_7 : decode cX10_yarnToAsk 7 = .ok (.istore 4, 2) := by decide +kernel
theorem dX10_yarnToAsk_9 : decode cX10_yarnToAsk 9 = .ok (.iload 4, 2) := by decide +kernel
theorem dX10_yarnToAsk_11 : decode cX10_yarnToAsk 11 = .ok (.aload_n 0, 1) := by decide +kernel
theorem dX10_yarnToAsk_12 : decode cX10_yarnToAsk 12 = .ok (.getfield 70, 3) := by decide +kernel
theorem dX10_yarnToAsk_15 : decode cX10_yarnToAsk 15 = .ok (.getfield 296, 3) := by decide +kernel
theorem dX10_yarnToAsk_18 : decode cX10_yarnToAsk 18 = .ok (.if_icmp .ge 47, 3) := by decide +kernel
theorem dX10_yarnToAsk_21 : decode cX10_yarnToAsk 21 = .ok (.iload_n 1, 1) := by decide +kernel
theorem dX10_yarnToAsk_22 : decode cX10_yarnToAsk 22 = .ok (.iconst 2, 1) := by decide +kernel
theorem dX10_yarnToAsk_23 : decode cX10_yarnToAsk 23 = .ok (.if_icmp .lt 42, 3) := by decide +kernel
theorem dX10_yarnToAsk_26 : decode cX10_yarnToAsk 26 = .ok (.aload_n 0, 1) := by decide +kernel
theorem dX10_yarnToAsk_27 : decode cX10_yarnToAsk 27 = .ok (.getfield 67, 3) := by decide +kernel
theorem dX10_yarnToAsk_30 : decode cX10_yarnToAsk 30 = .ok (.iload 4, 2) := by decide +kernel
theorem dX10_yarnToAsk_32 : decode cX10_yarnToAsk 32 = .ok (.iaload, 1) := by decide +kernel
theorem dX10_yarnToAsk_33 : decode cX10_yarnToAsk 33 = .ok (.iload_n 1, 1) := by decide +kernel
theorem dX10_yarnToAsk_34 : decode cX10_yarnToAsk 34 = .ok (.aload_n 0, 1) := by decide +kernel
theorem dX10_yarnToAsk_35 : decode cX10_yarnToAsk 35 = .ok (.getfield 67, 3) := by decide +kernel
theorem dX10_yarnToAsk_38 : decode cX10_yarnToAsk 38 = .ok (.iload 4, 2) := by decide +kernel
theorem dX10_yarnToAsk_40 : decode cX10_yarnToAsk 40 = .ok (.iaload, 1) := by decide +kernel
theorem dX10_yarnToAsk_41 : decode cX10_yarnToAsk 41 = .ok (.isub, 1) := by decide +kernel
theorem dX10_yarnToAsk_42 : decode cX10_yarnToAsk 42 = .ok (.invokestatic 345, 3) := by decide +kernel
theorem dX10_yarnToAsk_45 : decode cX10_yarnToAsk 45 = .ok (.istore 5, 2) := by decide +kernel
theorem dX10_yarnToAsk_47 : decode cX10_yarnToAsk 47 = .ok (.iload 5, 2) := by decide +kernel
theorem dX10_yarnToAsk_49 : decode cX10_yarnToAsk 49 = .ok (.iload_n 3, 1) := by decide +kernel
theorem dX10_yarnToAsk_50 : decode cX10_yarnToAsk 50 = .ok (.if_icmp .ge 9, 3) := by decide +kernel
theorem dX10_yarnToAsk_53 : decode cX10_yarnToAsk 53 = .ok (.iload 5, 2) := by decide +kernel
theorem dX10_yarnToAsk_55 : decode cX10_yarnToAsk 55 = .ok (.istore_n 3, 1) := by decide +kernel
theorem dX10_yarnToAsk_56 : decode cX10_yarnToAsk 56 = .ok (.iload 4, 2) := by decide +kernel
theorem dX10_yarnToAsk_58 : decode cX10_yarnToAsk 58 = .ok (.istore_n 2, 1) := by decide +kernel
theorem dX10_yarnToAsk_59 : decode cX10_yarnToAsk 59 = .ok (.iinc 4 1, 3) := by decide +kernel
theorem dX10_yarnToAsk_62 : decode cX10_yarnToAsk 62 = .ok (.goto (-53), 3) := by decide +kernel
theorem dX10_yarnToAsk_65 : decode cX10_yarnToAsk 65 = .ok (.iload_n 2, 1) := by decide +kernel
theorem dX10_yarnToAsk_66 : decode cX10_yarnToAsk 66 = .ok (.ireturn, 1) := by decide +kernel
theorem lm_RX10_345 : Cond.methodLink RX10 345 Lib.Math.max.name ∈ wA := wA_t (wt3 (List.mem_of_getElem? (i := 53) (by decide +kernel))) (by decide +kernel)
def rm_X10_yarnToAsk : Room := { frames := 1, cells := 0, slots := 0, locals := 21 }
def b_X10_yarnToAsk_9 (τ : gτ) (n : Nat) (x0 : Nat) (x1 : Int32) (x2 : Int32) (x3 : Int32) (x4 : Int32) (G : gG) : Option ((Int32 × Int32 × Int32) ⊕ ((Int32))) :=
  (gr G 10 10 x0).bind fun a2 =>
  if (gi G 6 4 a2) ≤ x4 then (some (.inr x2))
  else (if x1 < (2 : Int32) then (some (.inr x2))
  else ((gr G 10 9 x0).bind fun a3 =>
  gchk (gIn x4 (gn τ a3)) <|
  (gr G 10 9 x0).bind fun a4 =>
  gchk (gIn x4 (gn τ a4)) <|
  gLet (gmax (ge G a3 (Int32.toNatClampNeg x4)) (x1 - (ge G a4 (Int32.toNatClampNeg x4)))) fun v5 =>
  if x3 ≤ v5 then (gLet (x4 + 1) fun v6 =>
  some (.inl (x2, x3, v6)))
  else (gLet (x4 + 1) fun v7 =>
  some (.inl (x4, v5, v7)))))
def l_X10_yarnToAsk_9 (τ : gτ) (n : Nat) (x0 : Nat) (x1 : Int32) (x2 : Int32) (x3 : Int32) (x4 : Int32) (G : gG) : Option ((Int32)) :=
  gIter (fun (q : Int32 × Int32 × Int32) => b_X10_yarnToAsk_9 τ n x0 x1 q.1 q.2.1 q.2.2 G) n (x2, x3, x4)
def f_X10_yarnToAsk (τ : gτ) (n : Nat) (x0 : Nat) (x1 : Int32) (G : gG) : Option (Int32) :=
  gLet (x1 + (1 : Int32)) fun v1 =>
  (l_X10_yarnToAsk_9 τ n x0 x1 (-1 : Int32) v1 (0 : Int32) G).bind fun q => gLet q fun z8 => 
  some (z8)
set_option maxHeartbeats 4000000 in
set_option maxRecDepth 100000 in
theorem w_b_X10_yarnToAsk_9 {X : gX} {τ : gτ} {p : Program} {l : Launch} {e : Env} {s : State} {m : MethodId} {args : Array Value} {below : List Frame} {meth : Method} {c : Code} (fx : gFx X p s m args meth c cX10_yarnToAsk 6 RX10) (n : Nat) (x0 : Nat) (x1 : Int32) (x2 : Int32) (x3 : Int32) (x4 : Int32) (h0 : gK τ x0 10) {Q : State → Prop} {K : ((Int32 × Int32 × Int32) ⊕ ((Int32))) → Prop} {G : gG} {H : Heap} {locs : List Loc} {ls : Array Slot} (hw : gHw X τ G H locs) (hl : lv_has ls 6 [(0, .ref x0), (1, .int x1), (2, .int x2), (3, .int x3), (4, .int x4)]) (hok : gOk (b_X10_yarnToAsk_9 τ n x0 x1 x2 x3 x4 G) K) (hc : ∀ (y2 : Int32) (y3 : Int32) (y4 : Int32) (H : Heap) (locs : List Loc) (ls : Array Slot), gHw X τ G H locs → lv_has ls 6 [(0, .ref x0), (1, .int x1), (2, .int y2), (3, .int y3), (4, .int y4)] → K (.inl (y2, y3, y4)) → W p l e rm_X10_yarnToAsk s m args below meth c H locs 0 0 Q (F0 m 9 ls [])) (hx0 : ∀ (y2 : Int32) (H : Heap) (locs : List Loc) (ls : Array Slot), gHw X τ G H locs → lv_has ls 6 [(2, .int y2)] → K (.inr y2) → W p l e rm_X10_yarnToAsk s m args below meth c H locs 0 0 Q (F0 m 65 ls [])) : W p l e rm_X10_yarnToAsk s m args below meth c H locs 0 0 Q (F0 m 9 ls []) := by
  unfold b_X10_yarnToAsk_9 at hok
  refine lv_iload fx.1 fx.2.1 dX10_yarnToAsk_9 (lv_at hl 4 rfl) ?_
  refine lv_aload_n fx.1 fx.2.1 dX10_yarnToAsk_11 rfl (lv_at hl 0 rfl) ?_
  refine g_getr fx hw h0 lf_RX10_70 rfl dX10_yarnToAsk_12 hok (fun a2 h_a2 hok => ?_)
  refine g_geti fx hw h_a2 lf_RX10_296 rfl dX10_yarnToAsk_15 ?_
  refine g_icmp_ge (tgt := 65) fx dX10_yarnToAsk_18 (by decide) hok (fun hok => ?_) (fun hok => ?_)
  · exact hx0 x2  _ _ _  hw (lv_sub hl [2] rfl) (gOk_some hok)
  · refine lv_iload_n fx.1 fx.2.1 dX10_yarnToAsk_21 rfl (lv_at hl 1 rfl) ?_
    refine lv_iconst (v := 2) fx.1 fx.2.1 dX10_yarnToAsk_22 (by decide) ?_
    refine g_icmp_lt (tgt := 65) fx dX10_yarnToAsk_23 (by decide) hok (fun hok => ?_) (fun hok => ?_)
    · exact hx0 x2  _ _ _  hw (lv_sub hl [2] rfl) (gOk_some hok)
    · refine lv_aload_n fx.1 fx.2.1 dX10_yarnToAsk_26 rfl (lv_at hl 0 rfl) ?_
      refine g_getr fx hw h0 lf_RX10_67 rfl dX10_yarnToAsk_27 hok (fun a3 h_a3 hok => ?_)
      refine lv_iload fx.1 fx.2.1 dX10_yarnToAsk_30 (lv_at hl 4 rfl) ?_
      refine g_iald fx hw h_a3 dX10_yarnToAsk_32 hok (fun hok => ?_)
      refine lv_iload_n fx.1 fx.2.1 dX10_yarnToAsk_33 rfl (lv_at hl 1 rfl) ?_
      refine lv_aload_n fx.1 fx.2.1 dX10_yarnToAsk_34 rfl (lv_at hl 0 rfl) ?_
      refine g_getr fx hw h0 lf_RX10_67 rfl dX10_yarnToAsk_35 hok (fun a4 h_a4 hok => ?_)
      refine lv_iload fx.1 fx.2.1 dX10_yarnToAsk_38 (lv_at hl 4 rfl) ?_
      refine g_iald fx hw h_a4 dX10_yarnToAsk_40 hok (fun hok => ?_)
      refine lv_isub fx.1 fx.2.1 dX10_yarnToAsk_41 ?_
      refine g_mmax fx hl.1 lm_RX10_345 lmst_max lm_init lmco_max ⟨Nat.le_of_ble_eq_true rfl, Nat.le_of_ble_eq_true rfl, Nat.le_of_ble_eq_true rfl, Nat.le_of_ble_eq_true rfl⟩ dX10_yarnToAsk_42 ?_
      refine g_leti hok (fun v5 hok => ?_)
      refine lv_istore (lv' := [(5, .int v5), (0, .ref x0), (1, .int x1), (2, .int x2), (3, .int x3), (4, .int x4)]) fx.1 fx.2.1 dX10_yarnToAsk_45 hl (by decide) rfl (fun ls hl => ?_)
      refine lv_iload fx.1 fx.2.1 dX10_yarnToAsk_47 (lv_at hl 0 rfl) ?_
      refine lv_iload_n fx.1 fx.2.1 dX10_yarnToAsk_49 rfl (lv_at hl 4 rfl) ?_
      refine g_icmp_ge (tgt := 59) fx dX10_yarnToAsk_50 (by decide) hok (fun hok => ?_) (fun hok => ?_)
      · obtain ⟨v6, e_v6, hok⟩ := gOk_let hok
        refine lv_iinc (v := v6) (lv' := [(4, .int v6), (5, .int v5), (0, .ref x0), (1, .int x1), (2, .int x2), (3, .int x3)]) fx.1 fx.2.1 dX10_yarnToAsk_59 hl (k := 5) rfl (by rw [e_v6]; rfl) (by decide) rfl (fun ls hl => ?_)
        refine lv_goto (tgt := 9) fx.1 fx.2.1 dX10_yarnToAsk_62 (by decide) ?_
        exact hc x2 x3 v6  _ _ _  hw (lv_sub hl [2, 3, 4, 5, 0] rfl) (gOk_some hok)
      · refine lv_iload fx.1 fx.2.1 dX10_yarnToAsk_53 (lv_at hl 0 rfl) ?_
        refine lv_istore_n (lv' := [(3, .int v5), (5, .int v5), (0, .ref x0), (1, .int x1), (2, .int x2), (4, .int x4)]) fx.1 fx.2.1 dX10_yarnToAsk_55 rfl hl (by decide) rfl (fun ls hl => ?_)
        refine lv_iload fx.1 fx.2.1 dX10_yarnToAsk_56 (lv_at hl 5 rfl) ?_
        refine lv_istore_n (lv' := [(2, .int x4), (3, .int v5), (5, .int v5), (0, .ref x0), (1, .int x1), (4, .int x4)]) fx.1 fx.2.1 dX10_yarnToAsk_58 rfl hl (by decide) rfl (fun ls hl => ?_)
        obtain ⟨v7, e_v7, hok⟩ := gOk_let hok
        refine lv_iinc (v := v7) (lv' := [(4, .int v7), (2, .int x4), (3, .int v5), (5, .int v5), (0, .ref x0), (1, .int x1)]) fx.1 fx.2.1 dX10_yarnToAsk_59 hl (k := 5) rfl (by rw [e_v7]; rfl) (by decide) rfl (fun ls hl => ?_)
        refine lv_goto (tgt := 9) fx.1 fx.2.1 dX10_yarnToAsk_62 (by decide) ?_
        exact hc x4 v5 v7  _ _ _  hw (lv_sub hl [4, 5, 1, 2, 0] rfl) (gOk_some hok)
theorem w_l_X10_yarnToAsk_9 {X : gX} {τ : gτ} {p : Program} {l : Launch} {e : Env} {s : State} {m : MethodId} {args : Array Value} {below : List Frame} {meth : Method} {c : Code} (fx : gFx X p s m args meth c cX10_yarnToAsk 6 RX10) (n : Nat) (x0 : Nat) (x1 : Int32) (h0 : gK τ x0 10) (G : gG) {Q : State → Prop} {K : ((Int32)) → Prop} (hx0 : ∀ (y2 : Int32) (H : Heap) (locs : List Loc) (ls : Array Slot), gHw X τ G H locs → lv_has ls 6 [(2, .int y2)] → K y2 → W p l e rm_X10_yarnToAsk s m args below meth c H locs 0 0 Q (F0 m 65 ls [])) : ∀ (k : Nat) (x2 : Int32) (x3 : Int32) (x4 : Int32) (H : Heap) (locs : List Loc) (ls : Array Slot), gHw X τ G H locs → lv_has ls 6 [(0, .ref x0), (1, .int x1), (2, .int x2), (3, .int x3), (4, .int x4)] → gOk (gIter (fun (q : Int32 × Int32 × Int32) => b_X10_yarnToAsk_9 τ n x0 x1 q.1 q.2.1 q.2.2 G) k (x2, x3, x4)) K → W p l e rm_X10_yarnToAsk s m args below meth c H locs 0 0 Q (F0 m 9 ls []) := by
  intro k
  induction k with
  | zero =>
    intro x2 x3 x4  H locs ls hw hl hok
    exact gOk_iter0 hok
  | succ k hc =>
    intro x2 x3 x4  H locs ls hw hl hok
    exact w_b_X10_yarnToAsk_9 fx n x0 x1 x2 x3 x4 h0 hw hl (gOk_iter hok) hc hx0
set_option maxHeartbeats 4000000 in
set_option maxRecDepth 100000 in
theorem c_X10_yarnToAsk (l : Launch) (X : gX) (τ : gτ) (n : Nat) (x0 : Nat) (x1 : Int32) (G : gG) (h0 : gK τ x0 10) {r : Int32}  (h : f_X10_yarnToAsk τ n x0 x1 G = some r) : gM l X τ yX10_yarnToAsk cX10_yarnToAsk 6 (some .int) rm_X10_yarnToAsk [.ref x0, .int x1] G (some (.int r)) G := by
  refine g_body (by decide +kernel) (Nat.le_of_ble_eq_true rfl) ?_
  intro p e s m args below meth c ls fx hr hw hl
  have fx : gFx X p s m args meth c cX10_yarnToAsk 6 RX10 := fx
  have hl : lv_has ls 6 [(0, .ref x0), (1, .int x1)] := hl
  have hok : gOk (f_X10_yarnToAsk τ n x0 x1 G) (fun q => q = r) := ⟨_, h, rfl⟩
  unfold f_X10_yarnToAsk at hok
  show W p l e rm_X10_yarnToAsk s m args below meth c s.heap [] 0 0 (MQ below (gQ X τ (some (.int r)) G) args s 0 0 (gFree X)) _
  refine lv_iconst (v := (-1)) fx.1 fx.2.1 dX10_yarnToAsk_0 (by decide) ?_
  refine lv_istore_n (lv' := [(2, .int (-1 : Int32)), (0, .ref x0), (1, .int x1)]) fx.1 fx.2.1 dX10_yarnToAsk_1 rfl hl (by decide) rfl (fun ls hl => ?_)
  refine lv_iload_n fx.1 fx.2.1 dX10_yarnToAsk_2 rfl (lv_at hl 2 rfl) ?_
  refine lv_iconst (v := 1) fx.1 fx.2.1 dX10_yarnToAsk_3 (by decide) ?_
  refine lv_iadd fx.1 fx.2.1 dX10_yarnToAsk_4 ?_
  refine g_leti hok (fun v1 hok => ?_)
  refine lv_istore_n (lv' := [(3, .int v1), (2, .int (-1 : Int32)), (0, .ref x0), (1, .int x1)]) fx.1 fx.2.1 dX10_yarnToAsk_5 rfl hl (by decide) rfl (fun ls hl => ?_)
  refine lv_iconst (v := 0) fx.1 fx.2.1 dX10_yarnToAsk_6 (by decide) ?_
  refine lv_istore (lv' := [(4, .int (0 : Int32)), (3, .int v1), (2, .int (-1 : Int32)), (0, .ref x0), (1, .int x1)]) fx.1 fx.2.1 dX10_yarnToAsk_7 hl (by decide) rfl (fun ls hl => ?_)
  refine w_l_X10_yarnToAsk_9 fx n x0 x1 h0 G ?_ n (-1 : Int32) v1 (0 : Int32)  _ _ _  hw (lv_sub hl [3, 4, 2, 1, 0] rfl) (gOk_bindK hok)
  intro z8  H locs ls hw hl hok
  have hok : gOk (ρ := Int32) (some (z8)) _ := hok
  refine lv_iload_n fx.1 fx.2.1 dX10_yarnToAsk_65 rfl (lv_at hl 0 rfl) ?_
  cases gOk_some hok
  exact g_iret fx hw hr dX10_yarnToAsk_66
theorem dX10_oakum_0 : decode cX10_oakum 0 = .ok (.iload_n 3, 1) := by decide +kernel
theorem dX10_oakum_1 : decode cX10_oakum 1 = .ok (.ifCond .lt 8, 3) := by decide +kernel
theorem dX10_oakum_4 : decode cX10_oakum 4 = .ok (.iload_n 3, 1) := by decide +kernel
theorem dX10_oakum_5 : decode cX10_oakum 5 = .ok (.iconst 2, 1) := by decide +kernel
theorem dX10_oakum_6 : decode cX10_oakum 6 = .ok (.if_icmp .le 14, 3) := by decide +kernel
theorem dX10_oakum_9 : decode cX10_oakum 9 = .ok (.new 151, 3) := by decide +kernel
theorem dX10_oakum_12 : decode cX10_oakum 12 = .ok (.dup, 1) := by decide +kernel
theorem dX10_oakum_13 : decode cX10_oakum 13 = .ok (.ldc_w 306, 3) := by decide +kernel
theorem dX10_oakum_16 : decode cX10_oakum 16 = .ok (.invokespecial 155, 3) := by decide +kernel
theorem dX10_oakum_19 : decode cX10_oakum 19 = .ok (.athrow, 1) := by decide +kernel
theorem dX10_oakum_20 : decode cX10_oakum 20 = .ok (.aload_n 0, 1) := by decide +kernel
theorem dX10_oakum_21 : decode cX10_oakum 21 = .ok (.iload_n 1, 1) := by decide +kernel
theorem dX10_oakum_22 : decode cX10_oakum 22 = .ok (.iload_n 2, 1) := by decide +kernel
theorem dX10_oakum_23 : decode cX10_oakum 23 = .ok (.invokevirtual 308, 3) := by decide +kernel
theorem dX10_oakum_26 : decode cX10_oakum 26 = .ok (.istore 4, 2) := by decide +kernel
theorem dX10_oakum_28 : decode cX10_oakum 28 = .ok (.iload_n 3, 1) := by decide +kernel
theorem dX10_oakum_29 : decode cX10_oakum 29 = .ok (.ifCond .ne 6, 3) := by decide +kernel
theorem dX10_oakum_32 : decode cX10_oakum 32 = .ok (.iload 4, 2) := by decide +kernel
theorem dX10_oakum_34 : decode cX10_oakum 34 = .ok (.ireturn, 1) := by decide +kernel
theorem dX10_oakum_35 : decode cX10_oakum 35 = .ok (.iload_n 3, 1) := by decide +kernel
theorem dX10_oakum_36 : decode cX10_oakum 36 = .ok (.iconst 1, 1) := by decide +kernel
theorem dX10_oakum_37 : decode cX10_oakum 37 = .ok (.if_icmp .ne 12, 3) := by decide +kernel
theorem dX10_oakum_40 : decode cX10_oakum 40 = .ok (.aload_n 0, 1) := by decide +kernel
theorem dX10_oakum_41 : decode cX10_oakum 41 = .ok (.iload 4, 2) := by decide +kernel
theorem dX10_oakum_43 : decode cX10_oakum 43 = .ok (.invokevirtual 312, 3) := by decide +kernel
theorem dX10_oakum_46 : decode cX10_oakum 46 = .ok (.goto 9, 3) := by decide +kernel
theorem dX10_oakum_49 : decode cX10_oakum 49 = .ok (.aload_n 0, 1) := by decide +kernel
theorem dX10_oakum_50 : decode cX10_oakum 50 = .ok (.iload 4, 2) := by decide +kernel
theorem dX10_oakum_52 : decode cX10_oakum 52 = .ok (.invokevirtual 315, 3) := by decide +kernel
theorem dX10_oakum_55 : decode cX10_oakum 55 = .ok (.ireturn, 1) := by decide +kernel
theorem lv_RX10_308 : gLv RX10 308 RX10 yX10_tallyThrees cX10_tallyThrees 7 (some .int) 2 := gLv_of (wA_t (wt6 (List.mem_of_getElem? (i := 96) (by decide +kernel))) (by decide +kernel)) (wA_t (wt6 (List.mem_of_getElem? (i := 98) (by decide +kernel))) (by decide +kernel)) (wA_of (List.mem_append_left _ (List.mem_map.mpr ⟨(⟨"YearRope", "tallyThrees", "(II)I"⟩, 15), wp3 (List.mem_of_getElem? (i := 4) (by decide +kernel)), rfl⟩)) (by decide +kernel)) (wA_t (wt1 (List.mem_of_getElem? (i := 1) (by decide +kernel))) (by decide +kernel)) (wA_t (wt6 (List.mem_of_getElem? (i := 99) (by decide +kernel))) (by decide +kernel)) ⟨rfl, by decide +kernel, by decide +kernel, by decide +kernel⟩
theorem lv_RX10_312 : gLv RX10 312 RX10 yX10_sureYarns cX10_sureYarns 4 (some .int) 1 := gLv_of (wA_t (wt6 (List.mem_of_getElem? (i := 104) (by decide +kernel))) (by decide +kernel)) (wA_t (wt6 (List.mem_of_getElem? (i := 106) (by decide +kernel))) (by decide +kernel)) (wA_of (List.mem_append_left _ (List.mem_map.mpr ⟨(⟨"YearRope", "sureYarns", "(I)I"⟩, 15), wp3 (List.mem_of_getElem? (i := 5) (by decide +kernel)), rfl⟩)) (by decide +kernel)) (wA_t (wt1 (List.mem_of_getElem? (i := 1) (by decide +kernel))) (by decide +kernel)) (wA_t (wt6 (List.mem_of_getElem? (i := 107) (by decide +kernel))) (by decide +kernel)) ⟨rfl, by decide +kernel, by decide +kernel, by decide +kernel⟩
theorem lv_RX10_315 : gLv RX10 315 RX10 yX10_yarnToAsk cX10_yarnToAsk 6 (some .int) 1 := gLv_of (wA_t (wt6 (List.mem_of_getElem? (i := 108) (by decide +kernel))) (by decide +kernel)) (wA_t (wt6 (List.mem_of_getElem? (i := 110) (by decide +kernel))) (by decide +kernel)) (wA_of (List.mem_append_left _ (List.mem_map.mpr ⟨(⟨"YearRope", "yarnToAsk", "(I)I"⟩, 15), wp3 (List.mem_of_getElem? (i := 6) (by decide +kernel)), rfl⟩)) (by decide +kernel)) (wA_t (wt1 (List.mem_of_getElem? (i := 1) (by decide +kernel))) (by decide +kernel)) (wA_t (wt6 (List.mem_of_getElem? (i := 111) (by decide +kernel))) (by decide +kernel)) ⟨rfl, by decide +kernel, by decide +kernel, by decide +kernel⟩
def rm_X10_oakum : Room := { frames := 6, cells := 1, slots := 6, locals := 120 }
def f_X10_oakum (τ : gτ) (n : Nat) (x0 : Nat) (x1 : Int32) (x2 : Int32) (x3 : Int32) (G : gG) : Option ((String ⊕ Int32) × gG) :=
  if x3 < 0 then (some (.inl x_NSE, G))
  else (if x3 ≤ (2 : Int32) then (gBind2 (f_X10_tallyThrees τ n x0 x1 x2 G) fun v1 G2 =>
  if x3 = 0 then (some (.inr v1, G2))
  else (if x3 = (1 : Int32) then ((f_X10_sureYarns τ n x0 v1 G2).bind fun v3 =>
  some (.inr v3, G2))
  else ((f_X10_yarnToAsk τ n x0 v1 G2).bind fun v4 =>
  some (.inr v4, G2))))
  else (some (.inl x_NSE, G)))
set_option maxHeartbeats 4000000 in
set_option maxRecDepth 100000 in
theorem c_X10_oakum (l : Launch) (X : gX) (τ : gτ) (n : Nat) (hS : gS0 l X) (x0 : Nat) (x1 : Int32) (x2 : Int32) (x3 : Int32) (G : gG) (h0 : gK τ x0 10) {r : String ⊕ Int32} {G' : gG} (h : f_X10_oakum τ n x0 x1 x2 x3 G = some (r, G')) : gMX l X τ yX10_oakum cX10_oakum 5 (some .int) rm_X10_oakum [.ref x0, .int x1, .int x2, .int x3] G (gOi r) G' := by
  refine g_bodyX (by decide +kernel) (Nat.le_of_ble_eq_true rfl) ?_
  intro p e s m args below meth c ls fx hr hxt hw hl
  have fx : gFx X p s m args meth c cX10_oakum 5 RX10 := fx
  have hl : lv_has ls 5 [(0, .ref x0), (1, .int x1), (2, .int x2), (3, .int x3)] := hl
  have hok : gOk (f_X10_oakum τ n x0 x1 x2 x3 G) (fun q => q = (r, G')) := ⟨_, h, rfl⟩
  unfold f_X10_oakum at hok
  show W p l e rm_X10_oakum s m args below meth c s.heap [] 0 0 (vx_MQ below (gQX X τ (gOi r) G') (gXC X τ (gOi r) G') args s rm_X10_oakum.cells rm_X10_oakum.slots (gFree X)) _
  refine lv_iload_n fx.1 fx.2.1 dX10_oakum_0 rfl (lv_at hl 3 rfl) ?_
  refine g_if_lt (tgt := 9) fx dX10_oakum_1 (by decide) hok (fun hok => ?_) (fun hok => ?_)
  · cases gOk_some hok
    exact g_throwNW fx hw hS hl.1 hxt lxn_RX10_151 gt_RX10_306 dX10_oakum_9 dX10_oakum_12 dX10_oakum_13 dX10_oakum_16 dX10_oakum_19 ⟨Nat.le_of_ble_eq_true rfl, Nat.le_of_ble_eq_true rfl, Nat.le_of_ble_eq_true rfl, Nat.le_of_ble_eq_true rfl⟩ ⟨Nat.le_of_ble_eq_true rfl, Nat.le_of_ble_eq_true rfl⟩
  · refine lv_iload_n fx.1 fx.2.1 dX10_oakum_4 rfl (lv_at hl 3 rfl) ?_
    refine lv_iconst (v := 2) fx.1 fx.2.1 dX10_oakum_5 (by decide) ?_
    refine g_icmp_le (tgt := 20) fx dX10_oakum_6 (by decide) hok (fun hok => ?_) (fun hok => ?_)
    · refine lv_aload_n fx.1 fx.2.1 dX10_oakum_20 rfl (lv_at hl 0 rfl) ?_
      refine lv_iload_n fx.1 fx.2.1 dX10_oakum_21 rfl (lv_at hl 1 rfl) ?_
      refine lv_iload_n fx.1 fx.2.1 dX10_oakum_22 rfl (lv_at hl 2 rfl) ?_
      obtain ⟨v1, G2, hf, hok⟩ := gOk_bind2 hok
      refine g_callV0 (κ := 10) fx hw (c_X10_tallyThrees l X τ n x0 x1 x2 G h0 hf) lv_RX10_308 ⟨rfl, rfl⟩ rfl rfl h0 rfl hl.1 rfl ⟨Nat.le_of_ble_eq_true rfl, Nat.le_of_ble_eq_true rfl⟩ (Nat.le_of_ble_eq_true rfl) ⟨Nat.le_of_ble_eq_true rfl, Nat.le_of_ble_eq_true rfl⟩ dX10_oakum_23 (fun H locs hw => ?_)
      refine lv_istore (lv' := [(4, .int v1), (0, .ref x0), (1, .int x1), (2, .int x2), (3, .int x3)]) fx.1 fx.2.1 dX10_oakum_26 hl (by decide) rfl (fun ls hl => ?_)
      refine lv_iload_n fx.1 fx.2.1 dX10_oakum_28 rfl (lv_at hl 4 rfl) ?_
      refine g_if_ne (tgt := 35) fx dX10_oakum_29 (by decide) hok (fun hok => ?_) (fun hok => ?_)
      · refine lv_iload fx.1 fx.2.1 dX10_oakum_32 (lv_at hl 0 rfl) ?_
        cases gOk_some hok
        exact g_iretX fx hw hr ⟨Nat.le_of_ble_eq_true rfl, Nat.le_of_ble_eq_true rfl⟩ dX10_oakum_34
      · refine lv_iload_n fx.1 fx.2.1 dX10_oakum_35 rfl (lv_at hl 4 rfl) ?_
        refine lv_iconst (v := 1) fx.1 fx.2.1 dX10_oakum_36 (by decide) ?_
        refine g_icmp_ne (tgt := 49) fx dX10_oakum_37 (by decide) hok (fun hok => ?_) (fun hok => ?_)
        · refine lv_aload_n fx.1 fx.2.1 dX10_oakum_40 rfl (lv_at hl 1 rfl) ?_
          refine lv_iload fx.1 fx.2.1 dX10_oakum_41 (lv_at hl 0 rfl) ?_
          obtain ⟨v3, hf, hok⟩ := gOk_bind hok
          refine g_callV0 (κ := 10) fx hw (c_X10_sureYarns l X τ n x0 v1 G2 h0 hf) lv_RX10_312 ⟨rfl, rfl⟩ rfl rfl h0 rfl hl.1 rfl ⟨Nat.le_of_ble_eq_true rfl, Nat.le_of_ble_eq_true rfl⟩ (Nat.le_of_ble_eq_true rfl) ⟨Nat.le_of_ble_eq_true rfl, Nat.le_of_ble_eq_true rfl⟩ dX10_oakum_43 (fun H locs hw => ?_)
          refine lv_goto (tgt := 55) fx.1 fx.2.1 dX10_oakum_46 (by decide) ?_
          cases gOk_some hok
          exact g_iretX fx hw hr ⟨Nat.le_of_ble_eq_true rfl, Nat.le_of_ble_eq_true rfl⟩ dX10_oakum_55
        · refine lv_aload_n fx.1 fx.2.1 dX10_oakum_49 rfl (lv_at hl 1 rfl) ?_
          refine lv_iload fx.1 fx.2.1 dX10_oakum_50 (lv_at hl 0 rfl) ?_
          obtain ⟨v4, hf, hok⟩ := gOk_bind hok
          refine g_callV0 (κ := 10) fx hw (c_X10_yarnToAsk l X τ n x0 v1 G2 h0 hf) lv_RX10_315 ⟨rfl, rfl⟩ rfl rfl h0 rfl hl.1 rfl ⟨Nat.le_of_ble_eq_true rfl, Nat.le_of_ble_eq_true rfl⟩ (Nat.le_of_ble_eq_true rfl) ⟨Nat.le_of_ble_eq_true rfl, Nat.le_of_ble_eq_true rfl⟩ dX10_oakum_52 (fun H locs hw => ?_)
          cases gOk_some hok
          exact g_iretX fx hw hr ⟨Nat.le_of_ble_eq_true rfl, Nat.le_of_ble_eq_true rfl⟩ dX10_oakum_55
    · cases gOk_some hok
      exact g_throwNW fx hw hS hl.1 hxt lxn_RX10_151 gt_RX10_306 dX10_oakum_9 dX10_oakum_12 dX10_oakum_13 dX10_oakum_16 dX10_oakum_19 ⟨Nat.le_of_ble_eq_true rfl, Nat.le_of_ble_eq_true rfl, Nat.le_of_ble_eq_true rfl, Nat.le_of_ble_eq_true rfl⟩ ⟨Nat.le_of_ble_eq_true rfl, Nat.le_of_ble_eq_true rfl⟩
theorem dX10_usablePieces_0 : decode cX10_usablePieces 0 = .ok (.iconst 0, 1) := by decide +kernel
theorem dX10_usablePieces_1 : decode cX10_usablePieces 1 = .ok (.istore_n 3, 1) := by decide +kernel
theorem dX10_usablePieces_2 : decode cX10_usablePieces 2 = .ok (.iconst 0, 1) := by decide +kernel
theorem dX10_usablePieces_3 : decode cX10_usablePieces 3 = .ok (.istore 4, 2) := by decide +kernel
theorem dX10_usablePieces_5 : decode cX10_usablePieces 5 = .ok (.iload 4, 2) := by decide +kernel
theorem dX10_usablePieces_7 : decode cX10_usablePieces 7 = .ok (.aload_n 0, 1) := by decide +kernel
theorem dX10_usablePieces_8 : decode cX10_usablePieces 8 = .ok (.getfield 70, 3) := by decide +kernel
theorem dX10_usablePieces_11 : decode cX10_usablePieces 11 = .ok (.getfield 296, 3) := by decide +kernel
theorem dX10_usablePieces_14 : decode cX10_usablePieces 14 = .ok (.if_icmp .ge 35, 3) := by decide +kernel
theorem dX10_usablePieces_17 : decode cX10_usablePieces 17 = .ok (.iload_n 1, 1) := by decide +kernel
theorem dX10_usablePieces_18 : decode cX10_usablePieces 18 = .ok (.ifCond .le 31, 3) := by decide +kernel
theorem dX10_usablePieces_21 : decode cX10_usablePieces 21 = .ok (.iload_n 3, 1) := by decide +kernel
theorem dX10_usablePieces_22 : decode cX10_usablePieces 22 = .ok (.aload_n 0, 1) := by decide +kernel
theorem dX10_usablePieces_23 : decode cX10_usablePieces 23 = .ok (.getfield 70, 3) := by decide +kernel
theorem dX10_usablePieces_26 : decode cX10_usablePieces 26 = .ok (.getfield 318, 3) := by decide +kernel
theorem dX10_usablePieces_29 : decode cX10_usablePieces 29 = .ok (.iload 4, 2) := by decide +kernel
theorem dX10_usablePieces_31 : decode cX10_usablePieces 31 = .ok (.aaload, 1) := by decide +kernel
theorem dX10_usablePieces_32 : decode cX10_usablePieces 32 = .ok (.getfield 136, 3) := by decide +kernel
theorem dX10_usablePieces_35 : decode cX10_usablePieces 35 = .ok (.iload_n 1, 1) := by decide +kernel
theorem dX10_usablePieces_36 : decode cX10_usablePieces 36 = .ok (.idiv, 1) := by decide +kernel
theorem dX10_usablePieces_37 : decode cX10_usablePieces 37 = .ok (.iload_n 2, 1) := by decide +kernel
theorem dX10_usablePieces_38 : decode cX10_usablePieces 38 = .ok (.invokestatic 406, 3) := by decide +kernel
theorem dX10_usablePieces_41 : decode cX10_usablePieces 41 = .ok (.iadd, 1) := by decide +kernel
theorem dX10_usablePieces_42 : decode cX10_usablePieces 42 = .ok (.istore_n 3, 1) := by decide +kernel
theorem dX10_usablePieces_43 : decode cX10_usablePieces 43 = .ok (.iinc 4 1, 3) := by decide +kernel
theorem dX10_usablePieces_46 : decode cX10_usablePieces 46 = .ok (.goto (-41), 3) := by decide +kernel
theorem dX10_usablePieces_49 : decode cX10_usablePieces 49 = .ok (.iload_n 3, 1) := by decide +kernel
theorem dX10_usablePieces_50 : decode cX10_usablePieces 50 = .ok (.ireturn, 1) := by decide +kernel
theorem lm_RX10_406 : Cond.methodLink RX10 406 Lib.Math.min.name ∈ wA := wA_t (wt6 (List.mem_of_getElem? (i := 61) (by decide +kernel))) (by decide +kernel)
def rm_X10_usablePieces : Room := { frames := 1, cells := 0, slots := 0, locals := 21 }
def b_X10_usablePieces_5 (τ : gτ) (n : Nat) (x0 : Nat) (x1 : Int32) (x2 : Int32) (x3 : Int32) (x4 : Int32) (G : gG) : Option ((Int32 × Int32) ⊕ ((Int32))) :=
  (gr G 10 10 x0).bind fun a1 =>
  if (gi G 6 4 a1) ≤ x4 then (some (.inr x3))
  else (if x1 ≤ 0 then (some (.inr x3))
  else ((gr G 10 10 x0).bind fun a2 =>
  (gr G 6 0 a2).bind fun a3 =>
  gchk (gIn x4 (gn τ a3)) <| (gq G a3 (Int32.toNatClampNeg x4)).bind fun a4 =>
  gchk (¬ x1 = 0) <|
  gLet (x3 + (gmin ((gi G 9 1 a4) / x1) x2)) fun v5 =>
  gLet (x4 + 1) fun v6 =>
  some (.inl (v5, v6))))
def l_X10_usablePieces_5 (τ : gτ) (n : Nat) (x0 : Nat) (x1 : Int32) (x2 : Int32) (x3 : Int32) (x4 : Int32) (G : gG) : Option ((Int32)) :=
  gIter (fun (q : Int32 × Int32) => b_X10_usablePieces_5 τ n x0 x1 x2 q.1 q.2 G) n (x3, x4)
def f_X10_usablePieces (τ : gτ) (n : Nat) (x0 : Nat) (x1 : Int32) (x2 : Int32) (G : gG) : Option (Int32) :=
  (l_X10_usablePieces_5 τ n x0 x1 x2 (0 : Int32) (0 : Int32) G).bind fun q => gLet q fun z7 => 
  some (z7)
set_option maxHeartbeats 4000000 in
set_option maxRecDepth 100000 in
theorem w_b_X10_usablePieces_5 {X : gX} {τ : gτ} {p : Program} {l : Launch} {e : Env} {s : State} {m : MethodId} {args : Array Value} {below : List Frame} {meth : Method} {c : Code} (fx : gFx X p s m args meth c cX10_usablePieces 5 RX10) (n : Nat) (x0 : Nat) (x1 : Int32) (x2 : Int32) (x3 : Int32) (x4 : Int32) (h0 : gK τ x0 10) {Q : State → Prop} {K : ((Int32 × Int32) ⊕ ((Int32))) → Prop} {G : gG} {H : Heap} {locs : List Loc} {ls : Array Slot} (hw : gHw X τ G H locs) (hl : lv_has ls 5 [(0, .ref x0), (1, .int x1), (2, .int x2), (3, .int x3), (4, .int x4)]) (hok : gOk (b_X10_usablePieces_5 τ n x0 x1 x2 x3 x4 G) K) (hc : ∀ (y3 : Int32) (y4 : Int32) (H : Heap) (locs : List Loc) (ls : Array Slot), gHw X τ G H locs → lv_has ls 5 [(0, .ref x0), (1, .int x1), (2, .int x2), (3, .int y3), (4, .int y4)] → K (.inl (y3, y4)) → W p l e rm_X10_usablePieces s m args below meth c H locs 0 0 Q (F0 m 5 ls [])) (hx0 : ∀ (y3 : Int32) (H : Heap) (locs : List Loc) (ls : Array Slot), gHw X τ G H locs → lv_has ls 5 [(3, .int y3)] → K (.inr y3) → W p l e rm_X10_usablePieces s m args below meth c H locs 0 0 Q (F0 m 49 ls [])) : W p l e rm_X10_usablePieces s m args below meth c H locs 0 0 Q (F0 m 5 ls []) := by
  unfold b_X10_usablePieces_5 at hok
  refine lv_iload fx.1 fx.2.1 dX10_usablePieces_5 (lv_at hl 4 rfl) ?_
  refine lv_aload_n fx.1 fx.2.1 dX10_usablePieces_7 rfl (lv_at hl 0 rfl) ?_
  refine g_getr fx hw h0 lf_RX10_70 rfl dX10_usablePieces_8 hok (fun a1 h_a1 hok => ?_)
  refine g_geti fx hw h_a1 lf_RX10_296 rfl dX10_usablePieces_11 ?_
  refine g_icmp_ge (tgt := 49) fx dX10_usablePieces_14 (by decide) hok (fun hok => ?_) (fun hok => ?_)
  · exact hx0 x3  _ _ _  hw (lv_sub hl [3] rfl) (gOk_some hok)
  · refine lv_iload_n fx.1 fx.2.1 dX10_usablePieces_17 rfl (lv_at hl 1 rfl) ?_
    refine g_if_le (tgt := 49) fx dX10_usablePieces_18 (by decide) hok (fun hok => ?_) (fun hok => ?_)
    · exact hx0 x3  _ _ _  hw (lv_sub hl [3] rfl) (gOk_some hok)
    · refine lv_iload_n fx.1 fx.2.1 dX10_usablePieces_21 rfl (lv_at hl 3 rfl) ?_
      refine lv_aload_n fx.1 fx.2.1 dX10_usablePieces_22 rfl (lv_at hl 0 rfl) ?_
      refine g_getr fx hw h0 lf_RX10_70 rfl dX10_usablePieces_23 hok (fun a2 h_a2 hok => ?_)
      refine g_getr fx hw h_a2 lf_RX10_318 rfl dX10_usablePieces_26 hok (fun a3 h_a3 hok => ?_)
      refine lv_iload fx.1 fx.2.1 dX10_usablePieces_29 (lv_at hl 4 rfl) ?_
      refine g_aald fx hw 17 5 h_a3 (by decide) (by decide) rfl (κ' := 9) rfl dX10_usablePieces_31 hok (fun a4 h_a4 hok => ?_)
      refine g_geti fx hw h_a4 lf_RX10_136 rfl dX10_usablePieces_32 ?_
      refine lv_iload_n fx.1 fx.2.1 dX10_usablePieces_35 rfl (lv_at hl 1 rfl) ?_
      refine g_idiv fx dX10_usablePieces_36 hok (fun hok => ?_)
      refine lv_iload_n fx.1 fx.2.1 dX10_usablePieces_37 rfl (lv_at hl 2 rfl) ?_
      refine g_mmin fx hl.1 lm_RX10_406 lmst_min lm_init lmco_min ⟨Nat.le_of_ble_eq_true rfl, Nat.le_of_ble_eq_true rfl, Nat.le_of_ble_eq_true rfl, Nat.le_of_ble_eq_true rfl⟩ dX10_usablePieces_38 ?_
      refine lv_iadd fx.1 fx.2.1 dX10_usablePieces_41 ?_
      refine g_leti hok (fun v5 hok => ?_)
      refine lv_istore_n (lv' := [(3, .int v5), (0, .ref x0), (1, .int x1), (2, .int x2), (4, .int x4)]) fx.1 fx.2.1 dX10_usablePieces_42 rfl hl (by decide) rfl (fun ls hl => ?_)
      obtain ⟨v6, e_v6, hok⟩ := gOk_let hok
      refine lv_iinc (v := v6) (lv' := [(4, .int v6), (3, .int v5), (0, .ref x0), (1, .int x1), (2, .int x2)]) fx.1 fx.2.1 dX10_usablePieces_43 hl (k := 4) rfl (by rw [e_v6]; rfl) (by decide) rfl (fun ls hl => ?_)
      refine lv_goto (tgt := 5) fx.1 fx.2.1 dX10_usablePieces_46 (by decide) ?_
      exact hc v5 v6  _ _ _  hw (lv_sub hl [2, 3, 4, 1, 0] rfl) (gOk_some hok)
theorem w_l_X10_usablePieces_5 {X : gX} {τ : gτ} {p : Program} {l : Launch} {e : Env} {s : State} {m : MethodId} {args : Array Value} {below : List Frame} {meth : Method} {c : Code} (fx : gFx X p s m args meth c cX10_usablePieces 5 RX10) (n : Nat) (x0 : Nat) (x1 : Int32) (x2 : Int32) (h0 : gK τ x0 10) (G : gG) {Q : State → Prop} {K : ((Int32)) → Prop} (hx0 : ∀ (y3 : Int32) (H : Heap) (locs : List Loc) (ls : Array Slot), gHw X τ G H locs → lv_has ls 5 [(3, .int y3)] → K y3 → W p l e rm_X10_usablePieces s m args below meth c H locs 0 0 Q (F0 m 49 ls [])) : ∀ (k : Nat) (x3 : Int32) (x4 : Int32) (H : Heap) (locs : List Loc) (ls : Array Slot), gHw X τ G H locs → lv_has ls 5 [(0, .ref x0), (1, .int x1), (2, .int x2), (3, .int x3), (4, .int x4)] → gOk (gIter (fun (q : Int32 × Int32) => b_X10_usablePieces_5 τ n x0 x1 x2 q.1 q.2 G) k (x3, x4)) K → W p l e rm_X10_usablePieces s m args below meth c H locs 0 0 Q (F0 m 5 ls []) := by
  intro k
  induction k with
  | zero =>
    intro x3 x4  H locs ls hw hl hok
    exact gOk_iter0 hok
  | succ k hc =>
    intro x3 x4  H locs ls hw hl hok
    exact w_b_X10_usablePieces_5 fx n x0 x1 x2 x3 x4 h0 hw hl (gOk_iter hok) hc hx0
set_option maxHeartbeats 4000000 in
set_option maxRecDepth 100000 in
theorem c_X10_usablePieces (l : Launch) (X : gX) (τ : gτ) (n : Nat) (x0 : Nat) (x1 : Int32) (x2 : Int32) (G : gG) (h0 : gK τ x0 10) {r : Int32}  (h : f_X10_usablePieces τ n x0 x1 x2 G = some r) : gM l X τ yX10_usablePieces cX10_usablePieces 5 (some .int) rm_X10_usablePieces [.ref x0, .int x1, .int x2] G (some (.int r)) G := by
  refine g_body (by decide +kernel) (Nat.le_of_ble_eq_true rfl) ?_
  intro p e s m args below meth c ls fx hr hw hl
  have fx : gFx X p s m args meth c cX10_usablePieces 5 RX10 := fx
  have hl : lv_has ls 5 [(0, .ref x0), (1, .int x1), (2, .int x2)] := hl
  have hok : gOk (f_X10_usablePieces τ n x0 x1 x2 G) (fun q => q = r) := ⟨_, h, rfl⟩
  unfold f_X10_usablePieces at hok
  show W p l e rm_X10_usablePieces s m args below meth c s.heap [] 0 0 (MQ below (gQ X τ (some (.int r)) G) args s 0 0 (gFree X)) _
  refine lv_iconst (v := 0) fx.1 fx.2.1 dX10_usablePieces_0 (by decide) ?_
  refine lv_istore_n (lv' := [(3, .int (0 : Int32)), (0, .ref x0), (1, .int x1), (2, .int x2)]) fx.1 fx.2.1 dX10_usablePieces_1 rfl hl (by decide) rfl (fun ls hl => ?_)
  refine lv_iconst (v := 0) fx.1 fx.2.1 dX10_usablePieces_2 (by decide) ?_
  refine lv_istore (lv' := [(4, .int (0 : Int32)), (3, .int (0 : Int32)), (0, .ref x0), (1, .int x1), (2, .int x2)]) fx.1 fx.2.1 dX10_usablePieces_3 hl (by decide) rfl (fun ls hl => ?_)
  refine w_l_X10_usablePieces_5 fx n x0 x1 x2 h0 G ?_ n (0 : Int32) (0 : Int32)  _ _ _  hw (lv_sub hl [2, 3, 4, 1, 0] rfl) (gOk_bindK hok)
  intro z7  H locs ls hw hl hok
  have hok : gOk (ρ := Int32) (some (z7)) _ := hok
  refine lv_iload_n fx.1 fx.2.1 dX10_usablePieces_49 rfl (lv_at hl 0 rfl) ?_
  cases gOk_some hok
  exact g_iret fx hw hr dX10_usablePieces_50
theorem dX10_lasts_0 : decode cX10_lasts 0 = .ok (.iload_n 1, 1) := by decide +kernel
theorem dX10_lasts_1 : decode cX10_lasts 1 = .ok (.iconst 1, 1) := by decide +kernel
theorem dX10_lasts_2 : decode cX10_lasts 2 = .ok (.sipush 200, 3) := by decide +kernel
theorem dX10_lasts_5 : decode cX10_lasts 5 = .ok (.invokestatic 224, 3) := by decide +kernel
theorem dX10_lasts_8 : decode cX10_lasts 8 = .ok (.iconst 0, 1) := by decide +kernel
theorem dX10_lasts_9 : decode cX10_lasts 9 = .ok (.istore_n 2, 1) := by decide +kernel
theorem dX10_lasts_10 : decode cX10_lasts 10 = .ok (.iconst 0, 1) := by decide +kernel
theorem dX10_lasts_11 : decode cX10_lasts 11 = .ok (.istore_n 3, 1) := by decide +kernel
theorem dX10_lasts_12 : decode cX10_lasts 12 = .ok (.iload_n 3, 1) := by decide +kernel
theorem dX10_lasts_13 : decode cX10_lasts 13 = .ok (.aload_n 0, 1) := by decide +kernel
theorem dX10_lasts_14 : decode cX10_lasts 14 = .ok (.getfield 70, 3) := by decide +kernel
theorem dX10_lasts_17 : decode cX10_lasts 17 = .ok (.getfield 296, 3) := by decide +kernel
theorem dX10_lasts_20 : decode cX10_lasts 20 = .ok (.if_icmp .ge 26, 3) := by decide +kernel
theorem dX10_lasts_23 : decode cX10_lasts 23 = .ok (.iload_n 2, 1) := by decide +kernel
theorem dX10_lasts_24 : decode cX10_lasts 24 = .ok (.aload_n 0, 1) := by decide +kernel
theorem dX10_lasts_25 : decode cX10_lasts 25 = .ok (.getfield 70, 3) := by decide +kernel
theorem dX10_lasts_28 : decode cX10_lasts 28 = .ok (.getfield 318, 3) := by decide +kernel
theorem dX10_lasts_31 : decode cX10_lasts 31 = .ok (.iload_n 3, 1) := by decide +kernel
theorem dX10_lasts_32 : decode cX10_lasts 32 = .ok (.aaload, 1) := by decide +kernel
theorem dX10_lasts_33 : decode cX10_lasts 33 = .ok (.getfield 136, 3) := by decide +kernel
theorem dX10_lasts_36 : decode cX10_lasts 36 = .ok (.iload_n 1, 1) := by decide +kernel
theorem dX10_lasts_37 : decode cX10_lasts 37 = .ok (.idiv, 1) := by decide +kernel
theorem dX10_lasts_38 : decode cX10_lasts 38 = .ok (.iadd, 1) := by decide +kernel
theorem dX10_lasts_39 : decode cX10_lasts 39 = .ok (.istore_n 2, 1) := by decide +kernel
theorem dX10_lasts_40 : decode cX10_lasts 40 = .ok (.iinc 3 1, 3) := by decide +kernel
theorem dX10_lasts_43 : decode cX10_lasts 43 = .ok (.goto (-31), 3) := by decide +kernel
theorem dX10_lasts_46 : decode cX10_lasts 46 = .ok (.iload_n 2, 1) := by decide +kernel
theorem dX10_lasts_47 : decode cX10_lasts 47 = .ok (.iconst 3, 1) := by decide +kernel
theorem dX10_lasts_48 : decode cX10_lasts 48 = .ok (.idiv, 1) := by decide +kernel
theorem dX10_lasts_49 : decode cX10_lasts 49 = .ok (.istore_n 3, 1) := by decide +kernel
theorem dX10_lasts_50 : decode cX10_lasts 50 = .ok (.iload_n 3, 1) := by decide +kernel
theorem dX10_lasts_51 : decode cX10_lasts 51 = .ok (.ifCond .le 23, 3) := by decide +kernel
theorem dX10_lasts_54 : decode cX10_lasts 54 = .ok (.aload_n 0, 1) := by decide +kernel
theorem dX10_lasts_55 : decode cX10_lasts 55 = .ok (.iload_n 1, 1) := by decide +kernel
theorem dX10_lasts_56 : decode cX10_lasts 56 = .ok (.iload_n 3, 1) := by decide +kernel
theorem dX10_lasts_57 : decode cX10_lasts 57 = .ok (.invokevirtual 322, 3) := by decide +kernel
theorem dX10_lasts_60 : decode cX10_lasts 60 = .ok (.iconst 3, 1) := by decide +kernel
theorem dX10_lasts_61 : decode cX10_lasts 61 = .ok (.iload_n 3, 1) := by decide +kernel
theorem dX10_lasts_62 : decode cX10_lasts 62 = .ok (.imul, 1) := by decide +kernel
theorem dX10_lasts_63 : decode cX10_lasts 63 = .ok (.if_icmp .lt 5, 3) := by decide +kernel
theorem dX10_lasts_66 : decode cX10_lasts 66 = .ok (.iload_n 3, 1) := by decide +kernel
theorem dX10_lasts_67 : decode cX10_lasts 67 = .ok (.ireturn, 1) := by decide +kernel
theorem dX10_lasts_68 : decode cX10_lasts 68 = .ok (.iinc 3 (-1), 3) := by decide +kernel
theorem dX10_lasts_71 : decode cX10_lasts 71 = .ok (.goto (-21), 3) := by decide +kernel
theorem dX10_lasts_74 : decode cX10_lasts 74 = .ok (.iconst 0, 1) := by decide +kernel
theorem dX10_lasts_75 : decode cX10_lasts 75 = .ok (.ireturn, 1) := by decide +kernel
theorem lv_RX10_322 : gLv RX10 322 RX10 yX10_usablePieces cX10_usablePieces 5 (some .int) 2 := gLv_of (wA_t (wt6 (List.mem_of_getElem? (i := 153) (by decide +kernel))) (by decide +kernel)) (wA_t (wt6 (List.mem_of_getElem? (i := 155) (by decide +kernel))) (by decide +kernel)) (wA_of (List.mem_append_left _ (List.mem_map.mpr ⟨(⟨"YearRope", "usablePieces", "(II)I"⟩, 15), wp3 (List.mem_of_getElem? (i := 8) (by decide +kernel)), rfl⟩)) (by decide +kernel)) (wA_t (wt1 (List.mem_of_getElem? (i := 1) (by decide +kernel))) (by decide +kernel)) (wA_t (wt6 (List.mem_of_getElem? (i := 156) (by decide +kernel))) (by decide +kernel)) ⟨rfl, by decide +kernel, by decide +kernel, by decide +kernel⟩
def rm_X10_lasts : Room := { frames := 7, cells := 1, slots := 6, locals := 142 }
def b_X10_lasts_12 (τ : gτ) (n : Nat) (x0 : Nat) (x1 : Int32) (x2 : Int32) (x3 : Int32) (G : gG) : Option ((Int32 × Int32) ⊕ ((Int32))) :=
  (gr G 10 10 x0).bind fun a2 =>
  if (gi G 6 4 a2) ≤ x3 then (some (.inr x2))
  else ((gr G 10 10 x0).bind fun a3 =>
  (gr G 6 0 a3).bind fun a4 =>
  gchk (gIn x3 (gn τ a4)) <| (gq G a4 (Int32.toNatClampNeg x3)).bind fun a5 =>
  gchk (¬ x1 = 0) <|
  gLet (x2 + ((gi G 9 1 a5) / x1)) fun v6 =>
  gLet (x3 + 1) fun v7 =>
  some (.inl (v6, v7)))
def l_X10_lasts_12 (τ : gτ) (n : Nat) (x0 : Nat) (x1 : Int32) (x2 : Int32) (x3 : Int32) (G : gG) : Option ((Int32)) :=
  gIter (fun (q : Int32 × Int32) => b_X10_lasts_12 τ n x0 x1 q.1 q.2 G) n (x2, x3)
def b_X10_lasts_50 (τ : gτ) (n : Nat) (x0 : Nat) (x1 : Int32) (x3 : Int32) (G : gG) : Option ((Int32) ⊕ ((Unit) ⊕ (Int32))) :=
  if x3 ≤ 0 then (some (.inr (.inl ())))
  else ((f_X10_usablePieces τ n x0 x1 x3 G).bind fun v10 =>
  if v10 < ((3 : Int32) * x3) then (gLet (x3 + (-1)) fun v11 =>
  some (.inl v11))
  else (some (.inr (.inr x3))))
def l_X10_lasts_50 (τ : gτ) (n : Nat) (x0 : Nat) (x1 : Int32) (x3 : Int32) (G : gG) : Option ((Unit) ⊕ (Int32)) :=
  gIter (fun (q : Int32) => b_X10_lasts_50 τ n x0 x1 q G) n x3
def k_X10_lasts_46 (τ : gτ) (n : Nat) (x0 : Nat) (x1 : Int32) (x2 : Int32)  (G : gG) : Option ((String ⊕ Int32) × gG) :=
  gLet (x2 / (3 : Int32)) fun v9 =>
  (l_X10_lasts_50 τ n x0 x1 v9 G).bind fun q => match q with
  | .inl q => (some (.inr (0 : Int32), G))
  | .inr q => (gLet q fun z12 => some (.inr z12, G))
def f_X10_lasts (τ : gτ) (n : Nat) (x0 : Nat) (x1 : Int32) (G : gG) : Option ((String ⊕ Int32) × gG) :=
  gBindX (f_X10_needWithin x1 (1 : Int32) (200 : Int32) G) fun _ G1 =>
  (l_X10_lasts_12 τ n x0 x1 (0 : Int32) (0 : Int32) G1).bind fun q => gLet q fun z8 => 
  k_X10_lasts_46 τ n x0 x1 z8  G1
set_option maxHeartbeats 4000000 in
set_option maxRecDepth 100000 in
theorem w_b_X10_lasts_12 {X : gX} {τ : gτ} {p : Program} {l : Launch} {e : Env} {s : State} {m : MethodId} {args : Array Value} {below : List Frame} {meth : Method} {c : Code} (fx : gFx X p s m args meth c cX10_lasts 4 RX10) (hS : gS0 l X) (hxt : ∀ x ∈ c.exceptionTable.toList, False) (n : Nat) (x0 : Nat) (x1 : Int32) (x2 : Int32) (x3 : Int32) (h0 : gK τ x0 10) {Q : State → Prop} {K : ((Int32 × Int32) ⊕ ((Int32))) → Prop} {G : gG} {H : Heap} {locs : List Loc} {ls : Array Slot} (hw : gHw X τ G H locs) (hl : lv_has ls 4 [(0, .ref x0), (1, .int x1), (2, .int x2), (3, .int x3)]) (hok : gOk (b_X10_lasts_12 τ n x0 x1 x2 x3 G) K) (hc : ∀ (y2 : Int32) (y3 : Int32) (H : Heap) (locs : List Loc) (ls : Array Slot), gHw X τ G H locs → lv_has ls 4 [(0, .ref x0), (1, .int x1), (2, .int y2), (3, .int y3)] → K (.inl (y2, y3)) → W p l e rm_X10_lasts s m args below meth c H locs 1 6 Q (F0 m 12 ls [])) (hx0 : ∀ (y2 : Int32) (H : Heap) (locs : List Loc) (ls : Array Slot), gHw X τ G H locs → lv_has ls 4 [(0, .ref x0), (1, .int x1), (2, .int y2)] → K (.inr y2) → W p l e rm_X10_lasts s m args below meth c H locs 1 6 Q (F0 m 46 ls [])) : W p l e rm_X10_lasts s m args below meth c H locs 1 6 Q (F0 m 12 ls []) := by
  unfold b_X10_lasts_12 at hok
  refine lv_iload_n fx.1 fx.2.1 dX10_lasts_12 rfl (lv_at hl 3 rfl) ?_
  refine lv_aload_n fx.1 fx.2.1 dX10_lasts_13 rfl (lv_at hl 0 rfl) ?_
  refine g_getr fx hw h0 lf_RX10_70 rfl dX10_lasts_14 hok (fun a2 h_a2 hok => ?_)
  refine g_geti fx hw h_a2 lf_RX10_296 rfl dX10_lasts_17 ?_
  refine g_icmp_ge (tgt := 46) fx dX10_lasts_20 (by decide) hok (fun hok => ?_) (fun hok => ?_)
  · exact hx0 x2  _ _ _  hw (lv_sub hl [0, 1, 2] rfl) (gOk_some hok)
  · refine lv_iload_n fx.1 fx.2.1 dX10_lasts_23 rfl (lv_at hl 2 rfl) ?_
    refine lv_aload_n fx.1 fx.2.1 dX10_lasts_24 rfl (lv_at hl 0 rfl) ?_
    refine g_getr fx hw h0 lf_RX10_70 rfl dX10_lasts_25 hok (fun a3 h_a3 hok => ?_)
    refine g_getr fx hw h_a3 lf_RX10_318 rfl dX10_lasts_28 hok (fun a4 h_a4 hok => ?_)
    refine lv_iload_n fx.1 fx.2.1 dX10_lasts_31 rfl (lv_at hl 3 rfl) ?_
    refine g_aald fx hw 17 5 h_a4 (by decide) (by decide) rfl (κ' := 9) rfl dX10_lasts_32 hok (fun a5 h_a5 hok => ?_)
    refine g_geti fx hw h_a5 lf_RX10_136 rfl dX10_lasts_33 ?_
    refine lv_iload_n fx.1 fx.2.1 dX10_lasts_36 rfl (lv_at hl 1 rfl) ?_
    refine g_idiv fx dX10_lasts_37 hok (fun hok => ?_)
    refine lv_iadd fx.1 fx.2.1 dX10_lasts_38 ?_
    refine g_leti hok (fun v6 hok => ?_)
    refine lv_istore_n (lv' := [(2, .int v6), (0, .ref x0), (1, .int x1), (3, .int x3)]) fx.1 fx.2.1 dX10_lasts_39 rfl hl (by decide) rfl (fun ls hl => ?_)
    obtain ⟨v7, e_v7, hok⟩ := gOk_let hok
    refine lv_iinc (v := v7) (lv' := [(3, .int v7), (2, .int v6), (0, .ref x0), (1, .int x1)]) fx.1 fx.2.1 dX10_lasts_40 hl (k := 3) rfl (by rw [e_v7]; rfl) (by decide) rfl (fun ls hl => ?_)
    refine lv_goto (tgt := 12) fx.1 fx.2.1 dX10_lasts_43 (by decide) ?_
    exact hc v6 v7  _ _ _  hw (lv_sub hl [2, 3, 1, 0] rfl) (gOk_some hok)
theorem w_l_X10_lasts_12 {X : gX} {τ : gτ} {p : Program} {l : Launch} {e : Env} {s : State} {m : MethodId} {args : Array Value} {below : List Frame} {meth : Method} {c : Code} (fx : gFx X p s m args meth c cX10_lasts 4 RX10) (hS : gS0 l X) (hxt : ∀ x ∈ c.exceptionTable.toList, False) (n : Nat) (x0 : Nat) (x1 : Int32) (h0 : gK τ x0 10) (G : gG) {Q : State → Prop} {K : ((Int32)) → Prop} (hx0 : ∀ (y2 : Int32) (H : Heap) (locs : List Loc) (ls : Array Slot), gHw X τ G H locs → lv_has ls 4 [(0, .ref x0), (1, .int x1), (2, .int y2)] → K y2 → W p l e rm_X10_lasts s m args below meth c H locs 1 6 Q (F0 m 46 ls [])) : ∀ (k : Nat) (x2 : Int32) (x3 : Int32) (H : Heap) (locs : List Loc) (ls : Array Slot), gHw X τ G H locs → lv_has ls 4 [(0, .ref x0), (1, .int x1), (2, .int x2), (3, .int x3)] → gOk (gIter (fun (q : Int32 × Int32) => b_X10_lasts_12 τ n x0 x1 q.1 q.2 G) k (x2, x3)) K → W p l e rm_X10_lasts s m args below meth c H locs 1 6 Q (F0 m 12 ls []) := by
  intro k
  induction k with
  | zero =>
    intro x2 x3  H locs ls hw hl hok
    exact gOk_iter0 hok
  | succ k hc =>
    intro x2 x3  H locs ls hw hl hok
    exact w_b_X10_lasts_12 fx hS hxt n x0 x1 x2 x3 h0 hw hl (gOk_iter hok) hc hx0
set_option maxHeartbeats 4000000 in
set_option maxRecDepth 100000 in
theorem w_b_X10_lasts_50 {X : gX} {τ : gτ} {p : Program} {l : Launch} {e : Env} {s : State} {m : MethodId} {args : Array Value} {below : List Frame} {meth : Method} {c : Code} (fx : gFx X p s m args meth c cX10_lasts 4 RX10) (hS : gS0 l X) (hxt : ∀ x ∈ c.exceptionTable.toList, False) (n : Nat) (x0 : Nat) (x1 : Int32) (x3 : Int32) (h0 : gK τ x0 10) {Q : State → Prop} {K : ((Int32) ⊕ ((Unit) ⊕ (Int32))) → Prop} {G : gG} {H : Heap} {locs : List Loc} {ls : Array Slot} (hw : gHw X τ G H locs) (hl : lv_has ls 4 [(0, .ref x0), (1, .int x1), (3, .int x3)]) (hok : gOk (b_X10_lasts_50 τ n x0 x1 x3 G) K) (hc : ∀ (y3 : Int32) (H : Heap) (locs : List Loc) (ls : Array Slot), gHw X τ G H locs → lv_has ls 4 [(0, .ref x0), (1, .int x1), (3, .int y3)] → K (.inl y3) → W p l e rm_X10_lasts s m args below meth c H locs 1 6 Q (F0 m 50 ls [])) (hx0 : ∀ (H : Heap) (locs : List Loc) (ls : Array Slot), gHw X τ G H locs → lv_has ls 4 [] → K (.inr (.inl ())) → W p l e rm_X10_lasts s m args below meth c H locs 1 6 Q (F0 m 74 ls [])) (hx1 : ∀ (y3 : Int32) (H : Heap) (locs : List Loc) (ls : Array Slot), gHw X τ G H locs → lv_has ls 4 [(3, .int y3)] → K (.inr (.inr y3)) → W p l e rm_X10_lasts s m args below meth c H locs 1 6 Q (F0 m 66 ls [])) : W p l e rm_X10_lasts s m args below meth c H locs 1 6 Q (F0 m 50 ls []) := by
  unfold b_X10_lasts_50 at hok
  refine lv_iload_n fx.1 fx.2.1 dX10_lasts_50 rfl (lv_at hl 2 rfl) ?_
  refine g_if_le (tgt := 74) fx dX10_lasts_51 (by decide) hok (fun hok => ?_) (fun hok => ?_)
  · exact hx0   _ _ _  hw (lv_sub hl [] rfl) (gOk_some hok)
  · refine lv_aload_n fx.1 fx.2.1 dX10_lasts_54 rfl (lv_at hl 0 rfl) ?_
    refine lv_iload_n fx.1 fx.2.1 dX10_lasts_55 rfl (lv_at hl 1 rfl) ?_
    refine lv_iload_n fx.1 fx.2.1 dX10_lasts_56 rfl (lv_at hl 2 rfl) ?_
    obtain ⟨v10, hf, hok⟩ := gOk_bind hok
    refine g_callV0 (κ := 10) fx hw (c_X10_usablePieces l X τ n x0 x1 x3 G h0 hf) lv_RX10_322 ⟨rfl, rfl⟩ rfl rfl h0 rfl hl.1 rfl ⟨Nat.le_of_ble_eq_true rfl, Nat.le_of_ble_eq_true rfl⟩ (Nat.le_of_ble_eq_true rfl) ⟨Nat.le_of_ble_eq_true rfl, Nat.le_of_ble_eq_true rfl⟩ dX10_lasts_57 (fun H locs hw => ?_)
    refine lv_iconst (v := 3) fx.1 fx.2.1 dX10_lasts_60 (by decide) ?_
    refine lv_iload_n fx.1 fx.2.1 dX10_lasts_61 rfl (lv_at hl 2 rfl) ?_
    refine lv_imul fx.1 fx.2.1 dX10_lasts_62 ?_
    refine g_icmp_lt (tgt := 68) fx dX10_lasts_63 (by decide) hok (fun hok => ?_) (fun hok => ?_)
    · obtain ⟨v11, e_v11, hok⟩ := gOk_let hok
      refine lv_iinc (v := v11) (lv' := [(3, .int v11), (0, .ref x0), (1, .int x1)]) fx.1 fx.2.1 dX10_lasts_68 hl (k := 2) rfl (by rw [e_v11]; rfl) (by decide) rfl (fun ls hl => ?_)
      refine lv_goto (tgt := 50) fx.1 fx.2.1 dX10_lasts_71 (by decide) ?_
      exact hc v11  _ _ _  hw (lv_sub hl [1, 2, 0] rfl) (gOk_some hok)
    · exact hx1 x3  _ _ _  hw (lv_sub hl [2] rfl) (gOk_some hok)
theorem w_l_X10_lasts_50 {X : gX} {τ : gτ} {p : Program} {l : Launch} {e : Env} {s : State} {m : MethodId} {args : Array Value} {below : List Frame} {meth : Method} {c : Code} (fx : gFx X p s m args meth c cX10_lasts 4 RX10) (hS : gS0 l X) (hxt : ∀ x ∈ c.exceptionTable.toList, False) (n : Nat) (x0 : Nat) (x1 : Int32) (h0 : gK τ x0 10) (G : gG) {Q : State → Prop} {K : ((Unit) ⊕ (Int32)) → Prop} (hx0 : ∀ (H : Heap) (locs : List Loc) (ls : Array Slot), gHw X τ G H locs → lv_has ls 4 [] → K (.inl ()) → W p l e rm_X10_lasts s m args below meth c H locs 1 6 Q (F0 m 74 ls [])) (hx1 : ∀ (y3 : Int32) (H : Heap) (locs : List Loc) (ls : Array Slot), gHw X τ G H locs → lv_has ls 4 [(3, .int y3)] → K (.inr y3) → W p l e rm_X10_lasts s m args below meth c H locs 1 6 Q (F0 m 66 ls [])) : ∀ (k : Nat) (x3 : Int32) (H : Heap) (locs : List Loc) (ls : Array Slot), gHw X τ G H locs → lv_has ls 4 [(0, .ref x0), (1, .int x1), (3, .int x3)] → gOk (gIter (fun (q : Int32) => b_X10_lasts_50 τ n x0 x1 q G) k x3) K → W p l e rm_X10_lasts s m args below meth c H locs 1 6 Q (F0 m 50 ls []) := by
  intro k
  induction k with
  | zero =>
    intro x3  H locs ls hw hl hok
    exact gOk_iter0 hok
  | succ k hc =>
    intro x3  H locs ls hw hl hok
    exact w_b_X10_lasts_50 fx hS hxt n x0 x1 x3 h0 hw hl (gOk_iter hok) hc hx0 hx1
set_option maxHeartbeats 4000000 in
set_option maxRecDepth 100000 in
theorem w_X10_lasts_46 {X : gX} {τ : gτ} {p : Program} {l : Launch} {e : Env} {s : State} {m : MethodId} {args : Array Value} {below : List Frame} {meth : Method} {c : Code} (fx : gFx X p s m args meth c cX10_lasts 4 RX10) (hS : gS0 l X) (hxt : ∀ x ∈ c.exceptionTable.toList, False) (n : Nat) (x0 : Nat) (x1 : Int32) (x2 : Int32)  (h0 : gK τ x0 10)  (hr : meth.sig.returnType = (some .int)) {r : String ⊕ Int32} {G' : gG} {G : gG} {H : Heap} {locs : List Loc} {ls : Array Slot} (hw : gHw X τ G H locs) (hl : lv_has ls 4 [(0, .ref x0), (1, .int x1), (2, .int x2)]) (hok : gOk (k_X10_lasts_46 τ n x0 x1 x2  G) (fun q => q = (r, G')))  : W p l e rm_X10_lasts s m args below meth c H locs 1 6 (vx_MQ below (gQX X τ (gOi r) G') (gXC X τ (gOi r) G') args s rm_X10_lasts.cells rm_X10_lasts.slots (gFree X)) (F0 m 46 ls []) := by
  unfold k_X10_lasts_46 at hok
  refine lv_iload_n fx.1 fx.2.1 dX10_lasts_46 rfl (lv_at hl 2 rfl) ?_
  refine lv_iconst (v := 3) fx.1 fx.2.1 dX10_lasts_47 (by decide) ?_
  refine lv_idiv fx.1 fx.2.1 dX10_lasts_48 (by decide) ?_
  refine g_leti hok (fun v9 hok => ?_)
  refine lv_istore_n (lv' := [(3, .int v9), (0, .ref x0), (1, .int x1), (2, .int x2)]) fx.1 fx.2.1 dX10_lasts_49 rfl hl (by decide) rfl (fun ls hl => ?_)
  refine w_l_X10_lasts_50 fx hS hxt n x0 x1 h0 G ?_ ?_ n v9  _ _ _  hw (lv_sub hl [1, 2, 0] rfl) (gOk_bindK hok)
  · intro  H locs ls hw hl hok
    have hok : gOk (ρ := (String ⊕ Int32) × gG) (some (.inr (0 : Int32), G)) _ := hok
    refine lv_iconst (v := 0) fx.1 fx.2.1 dX10_lasts_74 (by decide) ?_
    cases gOk_some hok
    exact g_iretX fx hw hr ⟨Nat.le_of_ble_eq_true rfl, Nat.le_of_ble_eq_true rfl⟩ dX10_lasts_75
  · intro z12  H locs ls hw hl hok
    have hok : gOk (ρ := (String ⊕ Int32) × gG) (some (.inr z12, G)) _ := hok
    refine lv_iload_n fx.1 fx.2.1 dX10_lasts_66 rfl (lv_at hl 0 rfl) ?_
    cases gOk_some hok
    exact g_iretX fx hw hr ⟨Nat.le_of_ble_eq_true rfl, Nat.le_of_ble_eq_true rfl⟩ dX10_lasts_67
set_option maxHeartbeats 4000000 in
set_option maxRecDepth 100000 in
theorem c_X10_lasts (l : Launch) (X : gX) (τ : gτ) (n : Nat) (hS : gS0 l X) (x0 : Nat) (x1 : Int32) (G : gG) (h0 : gK τ x0 10) {r : String ⊕ Int32} {G' : gG} (h : f_X10_lasts τ n x0 x1 G = some (r, G')) : gMX l X τ yX10_lasts cX10_lasts 4 (some .int) rm_X10_lasts [.ref x0, .int x1] G (gOi r) G' := by
  refine g_bodyX (by decide +kernel) (Nat.le_of_ble_eq_true rfl) ?_
  intro p e s m args below meth c ls fx hr hxt hw hl
  have fx : gFx X p s m args meth c cX10_lasts 4 RX10 := fx
  have hl : lv_has ls 4 [(0, .ref x0), (1, .int x1)] := hl
  have hok : gOk (f_X10_lasts τ n x0 x1 G) (fun q => q = (r, G')) := ⟨_, h, rfl⟩
  unfold f_X10_lasts at hok
  show W p l e rm_X10_lasts s m args below meth c s.heap [] 0 0 (vx_MQ below (gQX X τ (gOi r) G') (gXC X τ (gOi r) G') args s rm_X10_lasts.cells rm_X10_lasts.slots (gFree X)) _
  refine lv_iload_n fx.1 fx.2.1 dX10_lasts_0 rfl (lv_at hl 1 rfl) ?_
  refine lv_iconst (v := 1) fx.1 fx.2.1 dX10_lasts_1 (by decide) ?_
  refine lv_sipush (v := 200) fx.1 fx.2.1 dX10_lasts_2 (by decide) ?_
  rcases gOk_bindX hok with ⟨E, G9, hf, hK⟩ | ⟨u, G1, hf, hok⟩
  · have hK : (Sum.inl E, G9) = (r, G') := hK
    cases hK
    refine g_callSX (As := [.int x1, .int (1 : Int32), .int (200 : Int32)]) fx hw hxt (c_X10_needWithin l X τ hS x1 (1 : Int32) (200 : Int32) G  hf) ls_RX10_224 rfl hl.1 rfl ⟨Nat.le_of_ble_eq_true rfl, Nat.le_of_ble_eq_true rfl⟩ (Nat.le_of_ble_eq_true rfl) ⟨Nat.le_of_ble_eq_true rfl, Nat.le_of_ble_eq_true rfl⟩ ⟨Nat.le_of_ble_eq_true rfl, Nat.le_of_ble_eq_true rfl⟩ dX10_lasts_5 (fun u H locs hv hw => ?_) (fun E9 hE => ?_)
    · have hv : (Sum.inl E : String ⊕ Option Value) = Sum.inr u := hv
      cases hv
    · have hE : (Sum.inl E : String ⊕ Option Value) = Sum.inl E9 := hE
      cases hE
      exact ⟨rfl, rfl⟩
  refine g_callSX (As := [.int x1, .int (1 : Int32), .int (200 : Int32)]) fx hw hxt (c_X10_needWithin l X τ hS x1 (1 : Int32) (200 : Int32) G  hf) ls_RX10_224 rfl hl.1 rfl ⟨Nat.le_of_ble_eq_true rfl, Nat.le_of_ble_eq_true rfl⟩ (Nat.le_of_ble_eq_true rfl) ⟨Nat.le_of_ble_eq_true rfl, Nat.le_of_ble_eq_true rfl⟩ ⟨Nat.le_of_ble_eq_true rfl, Nat.le_of_ble_eq_true rfl⟩ dX10_lasts_5 (fun u9 H locs hv hw => ?_) (fun E9 hE => by have hE : (Sum.inr none : String ⊕ Option Value) = Sum.inl E9 := hE; cases hE)
  have hv : (Sum.inr none : String ⊕ Option Value) = Sum.inr u9 := hv
  cases hv
  refine lv_iconst (v := 0) fx.1 fx.2.1 dX10_lasts_8 (by decide) ?_
  refine lv_istore_n (lv' := [(2, .int (0 : Int32)), (0, .ref x0), (1, .int x1)]) fx.1 fx.2.1 dX10_lasts_9 rfl hl (by decide) rfl (fun ls hl => ?_)
  refine lv_iconst (v := 0) fx.1 fx.2.1 dX10_lasts_10 (by decide) ?_
  refine lv_istore_n (lv' := [(3, .int (0 : Int32)), (2, .int (0 : Int32)), (0, .ref x0), (1, .int x1)]) fx.1 fx.2.1 dX10_lasts_11 rfl hl (by decide) rfl (fun ls hl => ?_)
  refine w_l_X10_lasts_12 fx hS hxt n x0 x1 h0 G1 ?_ n (0 : Int32) (0 : Int32)  _ _ _  hw (lv_sub hl [2, 3, 1, 0] rfl) (gOk_bindK hok)
  intro z8  H locs ls hw hl hok
  have hok : gOk (ρ := (String ⊕ Int32) × gG) (k_X10_lasts_46 τ n x0 x1 z8  G1) _ := hok
  exact w_X10_lasts_46 fx hS hxt n x0 x1 z8  h0  hr hw (lv_sub hl [0, 1, 2] rfl) hok
theorem dX10_ordersMetBy_0 : decode cX10_ordersMetBy 0 = .ok (.aload_n 1, 1) := by decide +kernel
theorem dX10_ordersMetBy_1 : decode cX10_ordersMetBy 1 = .ok (.invokevirtual 268, 3) := by decide +kernel
theorem dX10_ordersMetBy_4 : decode cX10_ordersMetBy 4 = .ok (.ifCond .ne 5, 3) := by decide +kernel
theorem dX10_ordersMetBy_7 : decode cX10_ordersMetBy 7 = .ok (.iconst 0, 1) := by decide +kernel
theorem dX10_ordersMetBy_8 : decode cX10_ordersMetBy 8 = .ok (.ireturn, 1) := by decide +kernel
theorem dX10_ordersMetBy_9 : decode cX10_ordersMetBy 9 = .ok (.aload_n 0, 1) := by decide +kernel
theorem dX10_ordersMetBy_10 : decode cX10_ordersMetBy 10 = .ok (.getfield 70, 3) := by decide +kernel
theorem dX10_ordersMetBy_13 : decode cX10_ordersMetBy 13 = .ok (.aload_n 1, 1) := by decide +kernel
theorem dX10_ordersMetBy_14 : decode cX10_ordersMetBy 14 = .ok (.aload_n 0, 1) := by decide +kernel
theorem dX10_ordersMetBy_15 : decode cX10_ordersMetBy 15 = .ok (.getfield 76, 3) := by decide +kernel
theorem dX10_ordersMetBy_18 : decode cX10_ordersMetBy 18 = .ok (.invokevirtual 191, 3) := by decide +kernel
theorem dX10_ordersMetBy_21 : decode cX10_ordersMetBy 21 = .ok (.istore_n 2, 1) := by decide +kernel
theorem dX10_ordersMetBy_22 : decode cX10_ordersMetBy 22 = .ok (.iconst 0, 1) := by decide +kernel
theorem dX10_ordersMetBy_23 : decode cX10_ordersMetBy 23 = .ok (.istore_n 3, 1) := by decide +kernel
theorem dX10_ordersMetBy_24 : decode cX10_ordersMetBy 24 = .ok (.iconst 0, 1) := by decide +kernel
theorem dX10_ordersMetBy_25 : decode cX10_ordersMetBy 25 = .ok (.istore 4, 2) := by decide +kernel
theorem dX10_ordersMetBy_27 : decode cX10_ordersMetBy 27 = .ok (.iload 4, 2) := by decide +kernel
theorem dX10_ordersMetBy_29 : decode cX10_ordersMetBy 29 = .ok (.aload_n 0, 1) := by decide +kernel
theorem dX10_ordersMetBy_30 : decode cX10_ordersMetBy 30 = .ok (.getfield 70, 3) := by decide +kernel
theorem dX10_ordersMetBy_33 : decode cX10_ordersMetBy 33 = .ok (.getfield 332, 3) := by decide +kernel
theorem dX10_ordersMetBy_36 : decode cX10_ordersMetBy 36 = .ok (.if_icmp .ge 37, 3) := by decide +kernel
theorem dX10_ordersMetBy_39 : decode cX10_ordersMetBy 39 = .ok (.aload_n 0, 1) := by decide +kernel
theorem dX10_ordersMetBy_40 : decode cX10_ordersMetBy 40 = .ok (.getfield 70, 3) := by decide +kernel
theorem dX10_ordersMetBy_43 : decode cX10_ordersMetBy 43 = .ok (.getfield 335, 3) := by decide +kernel
theorem dX10_ordersMetBy_46 : decode cX10_ordersMetBy 46 = .ok (.iload 4, 2) := by decide +kernel
theorem dX10_ordersMetBy_48 : decode cX10_ordersMetBy 48 = .ok (.aaload, 1) := by decide +kernel
theorem dX10_ordersMetBy_49 : decode cX10_ordersMetBy 49 = .ok (.aload_n 1, 1) := by decide +kernel
theorem dX10_ordersMetBy_50 : decode cX10_ordersMetBy 50 = .ok (.getfield 169, 3) := by decide +kernel
theorem dX10_ordersMetBy_53 : decode cX10_ordersMetBy 53 = .ok (.iload_n 2, 1) := by decide +kernel
theorem dX10_ordersMetBy_54 : decode cX10_ordersMetBy 54 = .ok (.invokevirtual 271, 3) := by decide +kernel
theorem dX10_ordersMetBy_57 : decode cX10_ordersMetBy 57 = .ok (.ifCond .eq 10, 3) := by decide +kernel
theorem dX10_ordersMetBy_60 : decode cX10_ordersMetBy 60 = .ok (.iload_n 3, 1) := by decide +kernel
theorem dX10_ordersMetBy_61 : decode cX10_ordersMetBy 61 = .ok (.iconst 1, 1) := by decide +kernel
theorem dX10_ordersMetBy_62 : decode cX10_ordersMetBy 62 = .ok (.iload 4, 2) := by decide +kernel
theorem dX10_ordersMetBy_64 : decode cX10_ordersMetBy 64 = .ok (.ishl, 1) := by decide +kernel
theorem dX10_ordersMetBy_65 : decode cX10_ordersMetBy 65 = .ok (.ior, 1) := by decide +kernel
theorem dX10_ordersMetBy_66 : decode cX10_ordersMetBy 66 = .ok (.istore_n 3, 1) := by decide +kernel
theorem dX10_ordersMetBy_67 : decode cX10_ordersMetBy 67 = .ok (.iinc 4 1, 3) := by decide +kernel
theorem dX10_ordersMetBy_70 : decode cX10_ordersMetBy 70 = .ok (.goto (-43), 3) := by decide +kernel
theorem dX10_ordersMetBy_73 : decode cX10_ordersMetBy 73 = .ok (.iload_n 3, 1) := by decide +kernel
theorem dX10_ordersMetBy_74 : decode cX10_ordersMetBy 74 = .ok (.ireturn, 1) := by decide +kernel
def rm_X10_ordersMetBy : Room := { frames := 4, cells := 0, slots := 0, locals := 97 }
def b_X10_ordersMetBy_27 (τ : gτ) (n : Nat) (x0 : Nat) (x1 : Nat) (x2 : Int32) (x3 : Int32) (x4 : Int32) (G : gG) : Option ((Int32 × Int32) ⊕ ((Int32))) :=
  (gr G 10 10 x0).bind fun a6 =>
  if (gi G 6 6 a6) ≤ x4 then (some (.inr x3))
  else ((gr G 10 10 x0).bind fun a7 =>
  (gr G 6 2 a7).bind fun a8 =>
  gchk (gIn x4 (gn τ a8)) <| (gq G a8 (Int32.toNatClampNeg x4)).bind fun a9 =>
  (f_X4_isFilledBy a9 (gi G 5 3 x1) x2 G).bind fun v10 =>
  if v10 = 0 then (gLet (x4 + 1) fun v11 =>
  some (.inl (x3, v11)))
  else (gLet (x3 ||| ((1 : Int32) <<< (x4 &&& 31))) fun v12 =>
  gLet (x4 + 1) fun v13 =>
  some (.inl (v12, v13))))
def l_X10_ordersMetBy_27 (τ : gτ) (n : Nat) (x0 : Nat) (x1 : Nat) (x2 : Int32) (x3 : Int32) (x4 : Int32) (G : gG) : Option ((Int32)) :=
  gIter (fun (q : Int32 × Int32) => b_X10_ordersMetBy_27 τ n x0 x1 x2 q.1 q.2 G) n (x3, x4)
def f_X10_ordersMetBy (τ : gτ) (n : Nat) (x0 : Nat) (x1 : Nat) (G : gG) : Option (Int32 × gG) :=
  (f_X5_isFree x1 G).bind fun v1 =>
  if v1 = 0 then (some (0, G))
  else ((gr G 10 10 x0).bind fun a2 =>
  (gr G 10 12 x0).bind fun a3 =>
  gBind2 (f_X6_bearing τ n a2 x1 a3 G) fun v4 G5 =>
  (l_X10_ordersMetBy_27 τ n x0 x1 v4 (0 : Int32) (0 : Int32) G5).bind fun q => gLet q fun z14 => 
  some (z14, G5))
set_option maxHeartbeats 4000000 in
set_option maxRecDepth 100000 in
theorem w_b_X10_ordersMetBy_27 {X : gX} {τ : gτ} {p : Program} {l : Launch} {e : Env} {s : State} {m : MethodId} {args : Array Value} {below : List Frame} {meth : Method} {c : Code} (fx : gFx X p s m args meth c cX10_ordersMetBy 5 RX10) (n : Nat) (x0 : Nat) (x1 : Nat) (x2 : Int32) (x3 : Int32) (x4 : Int32) (h0 : gK τ x0 10) (h1 : gK τ x1 5) {Q : State → Prop} {K : ((Int32 × Int32) ⊕ ((Int32))) → Prop} {G : gG} {H : Heap} {locs : List Loc} {ls : Array Slot} (hw : gHw X τ G H locs) (hl : lv_has ls 5 [(0, .ref x0), (1, .ref x1), (2, .int x2), (3, .int x3), (4, .int x4)]) (hok : gOk (b_X10_ordersMetBy_27 τ n x0 x1 x2 x3 x4 G) K) (hc : ∀ (y3 : Int32) (y4 : Int32) (H : Heap) (locs : List Loc) (ls : Array Slot), gHw X τ G H locs → lv_has ls 5 [(0, .ref x0), (1, .ref x1), (2, .int x2), (3, .int y3), (4, .int y4)] → K (.inl (y3, y4)) → W p l e rm_X10_ordersMetBy s m args below meth c H locs 0 0 Q (F0 m 27 ls [])) (hx0 : ∀ (y3 : Int32) (H : Heap) (locs : List Loc) (ls : Array Slot), gHw X τ G H locs → lv_has ls 5 [(3, .int y3)] → K (.inr y3) → W p l e rm_X10_ordersMetBy s m args below meth c H locs 0 0 Q (F0 m 73 ls [])) : W p l e rm_X10_ordersMetBy s m args below meth c H locs 0 0 Q (F0 m 27 ls []) := by
  unfold b_X10_ordersMetBy_27 at hok
  refine lv_iload fx.1 fx.2.1 dX10_ordersMetBy_27 (lv_at hl 4 rfl) ?_
  refine lv_aload_n fx.1 fx.2.1 dX10_ordersMetBy_29 rfl (lv_at hl 0 rfl) ?_
  refine g_getr fx hw h0 lf_RX10_70 rfl dX10_ordersMetBy_30 hok (fun a6 h_a6 hok => ?_)
  refine g_geti fx hw h_a6 lf_RX10_332 rfl dX10_ordersMetBy_33 ?_
  refine g_icmp_ge (tgt := 73) fx dX10_ordersMetBy_36 (by decide) hok (fun hok => ?_) (fun hok => ?_)
  · exact hx0 x3  _ _ _  hw (lv_sub hl [3] rfl) (gOk_some hok)
  · refine lv_aload_n fx.1 fx.2.1 dX10_ordersMetBy_39 rfl (lv_at hl 0 rfl) ?_
    refine g_getr fx hw h0 lf_RX10_70 rfl dX10_ordersMetBy_40 hok (fun a7 h_a7 hok => ?_)
    refine g_getr fx hw h_a7 lf_RX10_335 rfl dX10_ordersMetBy_43 hok (fun a8 h_a8 hok => ?_)
    refine lv_iload fx.1 fx.2.1 dX10_ordersMetBy_46 (lv_at hl 4 rfl) ?_
    refine g_aald fx hw 14 2 h_a8 (by decide) (by decide) rfl (κ' := 4) rfl dX10_ordersMetBy_48 hok (fun a9 h_a9 hok => ?_)
    refine lv_aload_n fx.1 fx.2.1 dX10_ordersMetBy_49 rfl (lv_at hl 1 rfl) ?_
    refine g_geti fx hw h1 lf_RX10_169 rfl dX10_ordersMetBy_50 ?_
    refine lv_iload_n fx.1 fx.2.1 dX10_ordersMetBy_53 rfl (lv_at hl 2 rfl) ?_
    obtain ⟨v10, hf, hok⟩ := gOk_bind hok
    refine g_callV0 (κ := 4) fx hw (c_X4_isFilledBy l X τ a9 (gi G 5 3 x1) x2 G h_a9 hf) lv_RX10_271 ⟨rfl, rfl⟩ rfl rfl h_a9 rfl hl.1 rfl ⟨Nat.le_of_ble_eq_true rfl, Nat.le_of_ble_eq_true rfl⟩ (Nat.le_of_ble_eq_true rfl) ⟨Nat.le_of_ble_eq_true rfl, Nat.le_of_ble_eq_true rfl⟩ dX10_ordersMetBy_54 (fun H locs hw => ?_)
    refine g_if_eq (tgt := 67) fx dX10_ordersMetBy_57 (by decide) hok (fun hok => ?_) (fun hok => ?_)
    · obtain ⟨v11, e_v11, hok⟩ := gOk_let hok
      refine lv_iinc (v := v11) (lv' := [(4, .int v11), (0, .ref x0), (1, .ref x1), (2, .int x2), (3, .int x3)]) fx.1 fx.2.1 dX10_ordersMetBy_67 hl (k := 4) rfl (by rw [e_v11]; rfl) (by decide) rfl (fun ls hl => ?_)
      refine lv_goto (tgt := 27) fx.1 fx.2.1 dX10_ordersMetBy_70 (by decide) ?_
      exact hc x3 v11  _ _ _  hw (lv_sub hl [1, 2, 3, 4, 0] rfl) (gOk_some hok)
    · refine lv_iload_n fx.1 fx.2.1 dX10_ordersMetBy_60 rfl (lv_at hl 3 rfl) ?_
      refine lv_iconst (v := 1) fx.1 fx.2.1 dX10_ordersMetBy_61 (by decide) ?_
      refine lv_iload fx.1 fx.2.1 dX10_ordersMetBy_62 (lv_at hl 4 rfl) ?_
      refine lv_ishl fx.1 fx.2.1 dX10_ordersMetBy_64 ?_
      refine lv_ior fx.1 fx.2.1 dX10_ordersMetBy_65 ?_
      refine g_leti hok (fun v12 hok => ?_)
      refine lv_istore_n (lv' := [(3, .int v12), (0, .ref x0), (1, .ref x1), (2, .int x2), (4, .int x4)]) fx.1 fx.2.1 dX10_ordersMetBy_66 rfl hl (by decide) rfl (fun ls hl => ?_)
      obtain ⟨v13, e_v13, hok⟩ := gOk_let hok
      refine lv_iinc (v := v13) (lv' := [(4, .int v13), (3, .int v12), (0, .ref x0), (1, .ref x1), (2, .int x2)]) fx.1 fx.2.1 dX10_ordersMetBy_67 hl (k := 4) rfl (by rw [e_v13]; rfl) (by decide) rfl (fun ls hl => ?_)
      refine lv_goto (tgt := 27) fx.1 fx.2.1 dX10_ordersMetBy_70 (by decide) ?_
      exact hc v12 v13  _ _ _  hw (lv_sub hl [2, 3, 4, 1, 0] rfl) (gOk_some hok)
theorem w_l_X10_ordersMetBy_27 {X : gX} {τ : gτ} {p : Program} {l : Launch} {e : Env} {s : State} {m : MethodId} {args : Array Value} {below : List Frame} {meth : Method} {c : Code} (fx : gFx X p s m args meth c cX10_ordersMetBy 5 RX10) (n : Nat) (x0 : Nat) (x1 : Nat) (x2 : Int32) (h0 : gK τ x0 10) (h1 : gK τ x1 5) (G : gG) {Q : State → Prop} {K : ((Int32)) → Prop} (hx0 : ∀ (y3 : Int32) (H : Heap) (locs : List Loc) (ls : Array Slot), gHw X τ G H locs → lv_has ls 5 [(3, .int y3)] → K y3 → W p l e rm_X10_ordersMetBy s m args below meth c H locs 0 0 Q (F0 m 73 ls [])) : ∀ (k : Nat) (x3 : Int32) (x4 : Int32) (H : Heap) (locs : List Loc) (ls : Array Slot), gHw X τ G H locs → lv_has ls 5 [(0, .ref x0), (1, .ref x1), (2, .int x2), (3, .int x3), (4, .int x4)] → gOk (gIter (fun (q : Int32 × Int32) => b_X10_ordersMetBy_27 τ n x0 x1 x2 q.1 q.2 G) k (x3, x4)) K → W p l e rm_X10_ordersMetBy s m args below meth c H locs 0 0 Q (F0 m 27 ls []) := by
  intro k
  induction k with
  | zero =>
    intro x3 x4  H locs ls hw hl hok
    exact gOk_iter0 hok
  | succ k hc =>
    intro x3 x4  H locs ls hw hl hok
    exact w_b_X10_ordersMetBy_27 fx n x0 x1 x2 x3 x4 h0 h1 hw hl (gOk_iter hok) hc hx0
set_option maxHeartbeats 4000000 in
set_option maxRecDepth 100000 in
theorem c_X10_ordersMetBy (l : Launch) (X : gX) (τ : gτ) (n : Nat) (x0 : Nat) (x1 : Nat) (G : gG) (h0 : gK τ x0 10) (h1 : gK τ x1 5) {r : Int32} {G' : gG} (h : f_X10_ordersMetBy τ n x0 x1 G = some (r, G')) : gM l X τ yX10_ordersMetBy cX10_ordersMetBy 5 (some .int) rm_X10_ordersMetBy [.ref x0, .ref x1] G (some (.int r)) G' := by
  refine g_body (by decide +kernel) (Nat.le_of_ble_eq_true rfl) ?_
  intro p e s m args below meth c ls fx hr hw hl
  have fx : gFx X p s m args meth c cX10_ordersMetBy 5 RX10 := fx
  have hl : lv_has ls 5 [(0, .ref x0), (1, .ref x1)] := hl
  have hok : gOk (f_X10_ordersMetBy τ n x0 x1 G) (fun q => q = (r, G')) := ⟨_, h, rfl⟩
  unfold f_X10_ordersMetBy at hok
  show W p l e rm_X10_ordersMetBy s m args below meth c s.heap [] 0 0 (MQ below (gQ X τ (some (.int r)) G') args s 0 0 (gFree X)) _
  refine lv_aload_n fx.1 fx.2.1 dX10_ordersMetBy_0 rfl (lv_at hl 1 rfl) ?_
  obtain ⟨v1, hf, hok⟩ := gOk_bind hok
  refine g_callV0 (κ := 5) fx hw (c_X5_isFree l X τ x1 G h1 hf) lv_RX10_268 ⟨rfl, rfl⟩ rfl rfl h1 rfl hl.1 rfl ⟨Nat.le_of_ble_eq_true rfl, Nat.le_of_ble_eq_true rfl⟩ (Nat.le_of_ble_eq_true rfl) ⟨Nat.le_of_ble_eq_true rfl, Nat.le_of_ble_eq_true rfl⟩ dX10_ordersMetBy_1 (fun H locs hw => ?_)
  refine g_if_ne (tgt := 9) fx dX10_ordersMetBy_4 (by decide) hok (fun hok => ?_) (fun hok => ?_)
  · refine lv_iconst (v := 0) fx.1 fx.2.1 dX10_ordersMetBy_7 (by decide) ?_
    cases gOk_some hok
    exact g_iret fx hw hr dX10_ordersMetBy_8
  · refine lv_aload_n fx.1 fx.2.1 dX10_ordersMetBy_9 rfl (lv_at hl 0 rfl) ?_
    refine g_getr fx hw h0 lf_RX10_70 rfl dX10_ordersMetBy_10 hok (fun a2 h_a2 hok => ?_)
    refine lv_aload_n fx.1 fx.2.1 dX10_ordersMetBy_13 rfl (lv_at hl 1 rfl) ?_
    refine lv_aload_n fx.1 fx.2.1 dX10_ordersMetBy_14 rfl (lv_at hl 0 rfl) ?_
    refine g_getr fx hw h0 lf_RX10_76 rfl dX10_ordersMetBy_15 hok (fun a3 h_a3 hok => ?_)
    obtain ⟨v4, G5, hf, hok⟩ := gOk_bind2 hok
    refine g_callV0 (κ := 6) fx hw (c_X6_bearing l X τ n a2 x1 a3 G h_a2 h1 h_a3 hf) lv_RX10_191 ⟨rfl, rfl⟩ rfl rfl h_a2 rfl hl.1 rfl ⟨Nat.le_of_ble_eq_true rfl, Nat.le_of_ble_eq_true rfl⟩ (Nat.le_of_ble_eq_true rfl) ⟨Nat.le_of_ble_eq_true rfl, Nat.le_of_ble_eq_true rfl⟩ dX10_ordersMetBy_18 (fun H locs hw => ?_)
    refine lv_istore_n (lv' := [(2, .int v4), (0, .ref x0), (1, .ref x1)]) fx.1 fx.2.1 dX10_ordersMetBy_21 rfl hl (by decide) rfl (fun ls hl => ?_)
    refine lv_iconst (v := 0) fx.1 fx.2.1 dX10_ordersMetBy_22 (by decide) ?_
    refine lv_istore_n (lv' := [(3, .int (0 : Int32)), (2, .int v4), (0, .ref x0), (1, .ref x1)]) fx.1 fx.2.1 dX10_ordersMetBy_23 rfl hl (by decide) rfl (fun ls hl => ?_)
    refine lv_iconst (v := 0) fx.1 fx.2.1 dX10_ordersMetBy_24 (by decide) ?_
    refine lv_istore (lv' := [(4, .int (0 : Int32)), (3, .int (0 : Int32)), (2, .int v4), (0, .ref x0), (1, .ref x1)]) fx.1 fx.2.1 dX10_ordersMetBy_25 hl (by decide) rfl (fun ls hl => ?_)
    refine w_l_X10_ordersMetBy_27 fx n x0 x1 v4 h0 h1 G5 ?_ n (0 : Int32) (0 : Int32)  _ _ _  hw (lv_sub hl [3, 4, 2, 1, 0] rfl) (gOk_bindK hok)
    intro z14  H locs ls hw hl hok
    have hok : gOk (ρ := Int32 × gG) (some (z14, G5)) _ := hok
    refine lv_iload_n fx.1 fx.2.1 dX10_ordersMetBy_73 rfl (lv_at hl 0 rfl) ?_
    cases gOk_some hok
    exact g_iret fx hw hr dX10_ordersMetBy_74
theorem dX10_can_0 : decode cX10_can 0 = .ok (.iconst 0, 1) := by decide +kernel
theorem dX10_can_1 : decode cX10_can 1 = .ok (.istore_n 2, 1) := by decide +kernel
theorem dX10_can_2 : decode cX10_can 2 = .ok (.iload_n 1, 1) := by decide +kernel
theorem dX10_can_3 : decode cX10_can 3 = .ok (.ifCond .ne 40, 3) := by decide +kernel
theorem dX10_can_6 : decode cX10_can 6 = .ok (.iconst 0, 1) := by decide +kernel
theorem dX10_can_7 : decode cX10_can 7 = .ok (.istore_n 3, 1) := by decide +kernel
theorem dX10_can_8 : decode cX10_can 8 = .ok (.iload_n 3, 1) := by decide +kernel
theorem dX10_can_9 : decode cX10_can 9 = .ok (.aload_n 0, 1) := by decide +kernel
theorem dX10_can_10 : decode cX10_can 10 = .ok (.getfield 70, 3) := by decide +kernel
theorem dX10_can_13 : decode cX10_can 13 = .ok (.getfield 286, 3) := by decide +kernel
theorem dX10_can_16 : decode cX10_can 16 = .ok (.if_icmp .ge 25, 3) := by decide +kernel
theorem dX10_can_19 : decode cX10_can 19 = .ok (.iload_n 2, 1) := by decide +kernel
theorem dX10_can_20 : decode cX10_can 20 = .ok (.aload_n 0, 1) := by decide +kernel
theorem dX10_can_21 : decode cX10_can 21 = .ok (.aload_n 0, 1) := by decide +kernel
theorem dX10_can_22 : decode cX10_can 22 = .ok (.getfield 70, 3) := by decide +kernel
theorem dX10_can_25 : decode cX10_can 25 = .ok (.getfield 325, 3) := by decide +kernel
theorem dX10_can_28 : decode cX10_can 28 = .ok (.iload_n 3, 1) := by decide +kernel
theorem dX10_can_29 : decode cX10_can 29 = .ok (.aaload, 1) := by decide +kernel
theorem dX10_can_30 : decode cX10_can 30 = .ok (.invokevirtual 329, 3) := by decide +kernel
theorem dX10_can_33 : decode cX10_can 33 = .ok (.ior, 1) := by decide +kernel
theorem dX10_can_34 : decode cX10_can 34 = .ok (.istore_n 2, 1) := by decide +kernel
theorem dX10_can_35 : decode cX10_can 35 = .ok (.iinc 3 1, 3) := by decide +kernel
theorem dX10_can_38 : decode cX10_can 38 = .ok (.goto (-30), 3) := by decide +kernel
theorem dX10_can_41 : decode cX10_can 41 = .ok (.iload_n 2, 1) := by decide +kernel
theorem dX10_can_42 : decode cX10_can 42 = .ok (.ireturn, 1) := by decide +kernel
theorem dX10_can_43 : decode cX10_can 43 = .ok (.iconst 0, 1) := by decide +kernel
theorem dX10_can_44 : decode cX10_can 44 = .ok (.istore_n 3, 1) := by decide +kernel
theorem dX10_can_45 : decode cX10_can 45 = .ok (.iload_n 3, 1) := by decide +kernel
theorem dX10_can_46 : decode cX10_can 46 = .ok (.aload_n 0, 1) := by decide +kernel
theorem dX10_can_47 : decode cX10_can 47 = .ok (.getfield 70, 3) := by decide +kernel
theorem dX10_can_50 : decode cX10_can 50 = .ok (.getfield 332, 3) := by decide +kernel
theorem dX10_can_53 : decode cX10_can 53 = .ok (.if_icmp .ge 32, 3) := by decide +kernel
theorem dX10_can_56 : decode cX10_can 56 = .ok (.aload_n 0, 1) := by decide +kernel
theorem dX10_can_57 : decode cX10_can 57 = .ok (.aload_n 0, 1) := by decide +kernel
theorem dX10_can_58 : decode cX10_can 58 = .ok (.getfield 70, 3) := by decide +kernel
theorem dX10_can_61 : decode cX10_can 61 = .ok (.getfield 335, 3) := by decide +kernel
theorem dX10_can_64 : decode cX10_can 64 = .ok (.iload_n 3, 1) := by decide +kernel
theorem dX10_can_65 : decode cX10_can 65 = .ok (.aaload, 1) := by decide +kernel
theorem dX10_can_66 : decode cX10_can 66 = .ok (.invokevirtual 302, 3) := by decide +kernel
theorem dX10_can_69 : decode cX10_can 69 = .ok (.iconst (-1), 1) := by decide +kernel
theorem dX10_can_70 : decode cX10_can 70 = .ok (.if_icmp .eq 9, 3) := by decide +kernel
theorem dX10_can_73 : decode cX10_can 73 = .ok (.iload_n 2, 1) := by decide +kernel
theorem dX10_can_74 : decode cX10_can 74 = .ok (.iconst 1, 1) := by decide +kernel
theorem dX10_can_75 : decode cX10_can 75 = .ok (.iload_n 3, 1) := by decide +kernel
theorem dX10_can_76 : decode cX10_can 76 = .ok (.ishl, 1) := by decide +kernel
theorem dX10_can_77 : decode cX10_can 77 = .ok (.ior, 1) := by decide +kernel
theorem dX10_can_78 : decode cX10_can 78 = .ok (.istore_n 2, 1) := by decide +kernel
theorem dX10_can_79 : decode cX10_can 79 = .ok (.iinc 3 1, 3) := by decide +kernel
theorem dX10_can_82 : decode cX10_can 82 = .ok (.goto (-37), 3) := by decide +kernel
theorem dX10_can_85 : decode cX10_can 85 = .ok (.iload_n 2, 1) := by decide +kernel
theorem dX10_can_86 : decode cX10_can 86 = .ok (.ireturn, 1) := by decide +kernel
theorem lv_RX10_329 : gLv RX10 329 RX10 yX10_ordersMetBy cX10_ordersMetBy 5 (some .int) 1 := gLv_of (wA_t (wt2 (List.mem_of_getElem? (i := 192) (by decide +kernel))) (by decide +kernel)) (wA_t (wt2 (List.mem_of_getElem? (i := 194) (by decide +kernel))) (by decide +kernel)) (wA_of (List.mem_append_left _ (List.mem_map.mpr ⟨(⟨"YearRope", "ordersMetBy", "(LYearRope$Rope;)I"⟩, 15), wp1 (List.mem_of_getElem? (i := 0) (by decide +kernel)), rfl⟩)) (by decide +kernel)) (wA_t (wt1 (List.mem_of_getElem? (i := 1) (by decide +kernel))) (by decide +kernel)) (wA_t (wt2 (List.mem_of_getElem? (i := 195) (by decide +kernel))) (by decide +kernel)) ⟨rfl, by decide +kernel, by decide +kernel, by decide +kernel⟩
def rm_X10_can : Room := { frames := 6, cells := 0, slots := 0, locals := 148 }
def b_X10_can_8 (τ : gτ) (n : Nat) (x0 : Nat) (x2 : Int32) (x3 : Int32) (G : gG) : Option ((Int32 × Int32 × gG) ⊕ ((Int32 × gG))) :=
  (gr G 10 10 x0).bind fun a1 =>
  if (gi G 6 5 a1) ≤ x3 then (some (.inr (x2, G)))
  else ((gr G 10 10 x0).bind fun a2 =>
  (gr G 6 1 a2).bind fun a3 =>
  gchk (gIn x3 (gn τ a3)) <| (gq G a3 (Int32.toNatClampNeg x3)).bind fun a4 =>
  gBind2 (f_X10_ordersMetBy τ n x0 a4 G) fun v5 G6 =>
  gLet (x2 ||| v5) fun v7 =>
  gLet (x3 + 1) fun v8 =>
  some (.inl (v7, v8, G6)))
def l_X10_can_8 (τ : gτ) (n : Nat) (x0 : Nat) (x2 : Int32) (x3 : Int32) (G : gG) : Option ((Int32 × gG)) :=
  gIter (fun (q : Int32 × Int32 × gG) => b_X10_can_8 τ n x0 q.1 q.2.1 q.2.2) n (x2, x3, G)
def b_X10_can_45 (τ : gτ) (n : Nat) (x0 : Nat) (x2 : Int32) (x3 : Int32) (G : gG) : Option ((Int32 × Int32 × gG) ⊕ ((Int32 × gG))) :=
  (gr G 10 10 x0).bind fun a11 =>
  if (gi G 6 6 a11) ≤ x3 then (some (.inr (x2, G)))
  else ((gr G 10 10 x0).bind fun a12 =>
  (gr G 6 2 a12).bind fun a13 =>
  gchk (gIn x3 (gn τ a13)) <| (gq G a13 (Int32.toNatClampNeg x3)).bind fun a14 =>
  gBind2 (f_X10_cheapestFor τ n x0 a14 G) fun v15 G16 =>
  if v15 = (-1 : Int32) then (gLet (x3 + 1) fun v17 =>
  some (.inl (x2, v17, G16)))
  else (gLet (x2 ||| ((1 : Int32) <<< (x3 &&& 31))) fun v18 =>
  gLet (x3 + 1) fun v19 =>
  some (.inl (v18, v19, G16))))
def l_X10_can_45 (τ : gτ) (n : Nat) (x0 : Nat) (x2 : Int32) (x3 : Int32) (G : gG) : Option ((Int32 × gG)) :=
  gIter (fun (q : Int32 × Int32 × gG) => b_X10_can_45 τ n x0 q.1 q.2.1 q.2.2) n (x2, x3, G)
def f_X10_can (τ : gτ) (n : Nat) (x0 : Nat) (x1 : Int32) (G : gG) : Option (Int32 × gG) :=
  if x1 = 0 then ((l_X10_can_8 τ n x0 (0 : Int32) (0 : Int32) G).bind fun q => gLet q.1 fun z9 => gLet q.2 fun G10 => 
  some (z9, G10))
  else ((l_X10_can_45 τ n x0 (0 : Int32) (0 : Int32) G).bind fun q => gLet q.1 fun z20 => gLet q.2 fun G21 => 
  some (z20, G21))
set_option maxHeartbeats 4000000 in
set_option maxRecDepth 100000 in
theorem w_b_X10_can_8 {X : gX} {τ : gτ} {p : Program} {l : Launch} {e : Env} {s : State} {m : MethodId} {args : Array Value} {below : List Frame} {meth : Method} {c : Code} (fx : gFx X p s m args meth c cX10_can 4 RX10) (n : Nat) (x0 : Nat) (x2 : Int32) (x3 : Int32) (h0 : gK τ x0 10) {Q : State → Prop} {K : ((Int32 × Int32 × gG) ⊕ ((Int32 × gG))) → Prop} {G : gG} {H : Heap} {locs : List Loc} {ls : Array Slot} (hw : gHw X τ G H locs) (hl : lv_has ls 4 [(0, .ref x0), (2, .int x2), (3, .int x3)]) (hok : gOk (b_X10_can_8 τ n x0 x2 x3 G) K) (hc : ∀ (y2 : Int32) (y3 : Int32) (G : gG) (H : Heap) (locs : List Loc) (ls : Array Slot), gHw X τ G H locs → lv_has ls 4 [(0, .ref x0), (2, .int y2), (3, .int y3)] → K (.inl (y2, y3, G)) → W p l e rm_X10_can s m args below meth c H locs 0 0 Q (F0 m 8 ls [])) (hx0 : ∀ (y2 : Int32) (G : gG) (H : Heap) (locs : List Loc) (ls : Array Slot), gHw X τ G H locs → lv_has ls 4 [(2, .int y2)] → K (.inr (y2, G)) → W p l e rm_X10_can s m args below meth c H locs 0 0 Q (F0 m 41 ls [])) : W p l e rm_X10_can s m args below meth c H locs 0 0 Q (F0 m 8 ls []) := by
  unfold b_X10_can_8 at hok
  refine lv_iload_n fx.1 fx.2.1 dX10_can_8 rfl (lv_at hl 2 rfl) ?_
  refine lv_aload_n fx.1 fx.2.1 dX10_can_9 rfl (lv_at hl 0 rfl) ?_
  refine g_getr fx hw h0 lf_RX10_70 rfl dX10_can_10 hok (fun a1 h_a1 hok => ?_)
  refine g_geti fx hw h_a1 lf_RX10_286 rfl dX10_can_13 ?_
  refine g_icmp_ge (tgt := 41) fx dX10_can_16 (by decide) hok (fun hok => ?_) (fun hok => ?_)
  · exact hx0 x2 G _ _ _  hw (lv_sub hl [1] rfl) (gOk_some hok)
  · refine lv_iload_n fx.1 fx.2.1 dX10_can_19 rfl (lv_at hl 1 rfl) ?_
    refine lv_aload_n fx.1 fx.2.1 dX10_can_20 rfl (lv_at hl 0 rfl) ?_
    refine lv_aload_n fx.1 fx.2.1 dX10_can_21 rfl (lv_at hl 0 rfl) ?_
    refine g_getr fx hw h0 lf_RX10_70 rfl dX10_can_22 hok (fun a2 h_a2 hok => ?_)
    refine g_getr fx hw h_a2 lf_RX10_325 rfl dX10_can_25 hok (fun a3 h_a3 hok => ?_)
    refine lv_iload_n fx.1 fx.2.1 dX10_can_28 rfl (lv_at hl 2 rfl) ?_
    refine g_aald fx hw 15 3 h_a3 (by decide) (by decide) rfl (κ' := 5) rfl dX10_can_29 hok (fun a4 h_a4 hok => ?_)
    obtain ⟨v5, G6, hf, hok⟩ := gOk_bind2 hok
    refine g_callV0 (κ := 10) fx hw (c_X10_ordersMetBy l X τ n x0 a4 G h0 h_a4 hf) lv_RX10_329 ⟨rfl, rfl⟩ rfl rfl h0 rfl hl.1 rfl ⟨Nat.le_of_ble_eq_true rfl, Nat.le_of_ble_eq_true rfl⟩ (Nat.le_of_ble_eq_true rfl) ⟨Nat.le_of_ble_eq_true rfl, Nat.le_of_ble_eq_true rfl⟩ dX10_can_30 (fun H locs hw => ?_)
    refine lv_ior fx.1 fx.2.1 dX10_can_33 ?_
    refine g_leti hok (fun v7 hok => ?_)
    refine lv_istore_n (lv' := [(2, .int v7), (0, .ref x0), (3, .int x3)]) fx.1 fx.2.1 dX10_can_34 rfl hl (by decide) rfl (fun ls hl => ?_)
    obtain ⟨v8, e_v8, hok⟩ := gOk_let hok
    refine lv_iinc (v := v8) (lv' := [(3, .int v8), (2, .int v7), (0, .ref x0)]) fx.1 fx.2.1 dX10_can_35 hl (k := 2) rfl (by rw [e_v8]; rfl) (by decide) rfl (fun ls hl => ?_)
    refine lv_goto (tgt := 8) fx.1 fx.2.1 dX10_can_38 (by decide) ?_
    exact hc v7 v8 G6 _ _ _  hw (lv_sub hl [2, 1, 0] rfl) (gOk_some hok)
theorem w_l_X10_can_8 {X : gX} {τ : gτ} {p : Program} {l : Launch} {e : Env} {s : State} {m : MethodId} {args : Array Value} {below : List Frame} {meth : Method} {c : Code} (fx : gFx X p s m args meth c cX10_can 4 RX10) (n : Nat) (x0 : Nat) (h0 : gK τ x0 10) {Q : State → Prop} {K : ((Int32 × gG)) → Prop} (hx0 : ∀ (y2 : Int32) (G : gG) (H : Heap) (locs : List Loc) (ls : Array Slot), gHw X τ G H locs → lv_has ls 4 [(2, .int y2)] → K (y2, G) → W p l e rm_X10_can s m args below meth c H locs 0 0 Q (F0 m 41 ls [])) : ∀ (k : Nat) (x2 : Int32) (x3 : Int32) (G : gG) (H : Heap) (locs : List Loc) (ls : Array Slot), gHw X τ G H locs → lv_has ls 4 [(0, .ref x0), (2, .int x2), (3, .int x3)] → gOk (gIter (fun (q : Int32 × Int32 × gG) => b_X10_can_8 τ n x0 q.1 q.2.1 q.2.2) k (x2, x3, G)) K → W p l e rm_X10_can s m args below meth c H locs 0 0 Q (F0 m 8 ls []) := by
  intro k
  induction k with
  | zero =>
    intro x2 x3 G H locs ls hw hl hok
    exact gOk_iter0 hok
  | succ k hc =>
    intro x2 x3 G H locs ls hw hl hok
    exact w_b_X10_can_8 fx n x0 x2 x3 h0 hw hl (gOk_iter hok) hc hx0
set_option maxHeartbeats 4000000 in
set_option maxRecDepth 100000 in
theorem w_b_X10_can_45 {X : gX} {τ : gτ} {p : Program} {l : Launch} {e : Env} {s : State} {m : MethodId} {args : Array Value} {below : List Frame} {meth : Method} {c : Code} (fx : gFx X p s m args meth c cX10_can 4 RX10) (n : Nat) (x0 : Nat) (x2 : Int32) (x3 : Int32) (h0 : gK τ x0 10) {Q : State → Prop} {K : ((Int32 × Int32 × gG) ⊕ ((Int32 × gG))) → Prop} {G : gG} {H : Heap} {locs : List Loc} {ls : Array Slot} (hw : gHw X τ G H locs) (hl : lv_has ls 4 [(0, .ref x0), (2, .int x2), (3, .int x3)]) (hok : gOk (b_X10_can_45 τ n x0 x2 x3 G) K) (hc : ∀ (y2 : Int32) (y3 : Int32) (G : gG) (H : Heap) (locs : List Loc) (ls : Array Slot), gHw X τ G H locs → lv_has ls 4 [(0, .ref x0), (2, .int y2), (3, .int y3)] → K (.inl (y2, y3, G)) → W p l e rm_X10_can s m args below meth c H locs 0 0 Q (F0 m 45 ls [])) (hx0 : ∀ (y2 : Int32) (G : gG) (H : Heap) (locs : List Loc) (ls : Array Slot), gHw X τ G H locs → lv_has ls 4 [(2, .int y2)] → K (.inr (y2, G)) → W p l e rm_X10_can s m args below meth c H locs 0 0 Q (F0 m 85 ls [])) : W p l e rm_X10_can s m args below meth c H locs 0 0 Q (F0 m 45 ls []) := by
  unfold b_X10_can_45 at hok
  refine lv_iload_n fx.1 fx.2.1 dX10_can_45 rfl (lv_at hl 2 rfl) ?_
  refine lv_aload_n fx.1 fx.2.1 dX10_can_46 rfl (lv_at hl 0 rfl) ?_
  refine g_getr fx hw h0 lf_RX10_70 rfl dX10_can_47 hok (fun a11 h_a11 hok => ?_)
  refine g_geti fx hw h_a11 lf_RX10_332 rfl dX10_can_50 ?_
  refine g_icmp_ge (tgt := 85) fx dX10_can_53 (by decide) hok (fun hok => ?_) (fun hok => ?_)
  · exact hx0 x2 G _ _ _  hw (lv_sub hl [1] rfl) (gOk_some hok)
  · refine lv_aload_n fx.1 fx.2.1 dX10_can_56 rfl (lv_at hl 0 rfl) ?_
    refine lv_aload_n fx.1 fx.2.1 dX10_can_57 rfl (lv_at hl 0 rfl) ?_
    refine g_getr fx hw h0 lf_RX10_70 rfl dX10_can_58 hok (fun a12 h_a12 hok => ?_)
    refine g_getr fx hw h_a12 lf_RX10_335 rfl dX10_can_61 hok (fun a13 h_a13 hok => ?_)
    refine lv_iload_n fx.1 fx.2.1 dX10_can_64 rfl (lv_at hl 2 rfl) ?_
    refine g_aald fx hw 14 2 h_a13 (by decide) (by decide) rfl (κ' := 4) rfl dX10_can_65 hok (fun a14 h_a14 hok => ?_)
    obtain ⟨v15, G16, hf, hok⟩ := gOk_bind2 hok
    refine g_callV0 (κ := 10) fx hw (c_X10_cheapestFor l X τ n x0 a14 G h0 h_a14 hf) lv_RX10_302 ⟨rfl, rfl⟩ rfl rfl h0 rfl hl.1 rfl ⟨Nat.le_of_ble_eq_true rfl, Nat.le_of_ble_eq_true rfl⟩ (Nat.le_of_ble_eq_true rfl) ⟨Nat.le_of_ble_eq_true rfl, Nat.le_of_ble_eq_true rfl⟩ dX10_can_66 (fun H locs hw => ?_)
    refine lv_iconst (v := (-1)) fx.1 fx.2.1 dX10_can_69 (by decide) ?_
    refine g_icmp_eq (tgt := 79) fx dX10_can_70 (by decide) hok (fun hok => ?_) (fun hok => ?_)
    · obtain ⟨v17, e_v17, hok⟩ := gOk_let hok
      refine lv_iinc (v := v17) (lv' := [(3, .int v17), (0, .ref x0), (2, .int x2)]) fx.1 fx.2.1 dX10_can_79 hl (k := 2) rfl (by rw [e_v17]; rfl) (by decide) rfl (fun ls hl => ?_)
      refine lv_goto (tgt := 45) fx.1 fx.2.1 dX10_can_82 (by decide) ?_
      exact hc x2 v17 G16 _ _ _  hw (lv_sub hl [1, 2, 0] rfl) (gOk_some hok)
    · refine lv_iload_n fx.1 fx.2.1 dX10_can_73 rfl (lv_at hl 1 rfl) ?_
      refine lv_iconst (v := 1) fx.1 fx.2.1 dX10_can_74 (by decide) ?_
      refine lv_iload_n fx.1 fx.2.1 dX10_can_75 rfl (lv_at hl 2 rfl) ?_
      refine lv_ishl fx.1 fx.2.1 dX10_can_76 ?_
      refine lv_ior fx.1 fx.2.1 dX10_can_77 ?_
      refine g_leti hok (fun v18 hok => ?_)
      refine lv_istore_n (lv' := [(2, .int v18), (0, .ref x0), (3, .int x3)]) fx.1 fx.2.1 dX10_can_78 rfl hl (by decide) rfl (fun ls hl => ?_)
      obtain ⟨v19, e_v19, hok⟩ := gOk_let hok
      refine lv_iinc (v := v19) (lv' := [(3, .int v19), (2, .int v18), (0, .ref x0)]) fx.1 fx.2.1 dX10_can_79 hl (k := 2) rfl (by rw [e_v19]; rfl) (by decide) rfl (fun ls hl => ?_)
      refine lv_goto (tgt := 45) fx.1 fx.2.1 dX10_can_82 (by decide) ?_
      exact hc v18 v19 G16 _ _ _  hw (lv_sub hl [2, 1, 0] rfl) (gOk_some hok)
theorem w_l_X10_can_45 {X : gX} {τ : gτ} {p : Program} {l : Launch} {e : Env} {s : State} {m : MethodId} {args : Array Value} {below : List Frame} {meth : Method} {c : Code} (fx : gFx X p s m args meth c cX10_can 4 RX10) (n : Nat) (x0 : Nat) (h0 : gK τ x0 10) {Q : State → Prop} {K : ((Int32 × gG)) → Prop} (hx0 : ∀ (y2 : Int32) (G : gG) (H : Heap) (locs : List Loc) (ls : Array Slot), gHw X τ G H locs → lv_has ls 4 [(2, .int y2)] → K (y2, G) → W p l e rm_X10_can s m args below meth c H locs 0 0 Q (F0 m 85 ls [])) : ∀ (k : Nat) (x2 : Int32) (x3 : Int32) (G : gG) (H : Heap) (locs : List Loc) (ls : Array Slot), gHw X τ G H locs → lv_has ls 4 [(0, .ref x0), (2, .int x2), (3, .int x3)] → gOk (gIter (fun (q : Int32 × Int32 × gG) => b_X10_can_45 τ n x0 q.1 q.2.1 q.2.2) k (x2, x3, G)) K → W p l e rm_X10_can s m args below meth c H locs 0 0 Q (F0 m 45 ls []) := by
  intro k
  induction k with
  | zero =>
    intro x2 x3 G H locs ls hw hl hok
    exact gOk_iter0 hok
  | succ k hc =>
    intro x2 x3 G H locs ls hw hl hok
    exact w_b_X10_can_45 fx n x0 x2 x3 h0 hw hl (gOk_iter hok) hc hx0
set_option maxHeartbeats 4000000 in
set_option maxRecDepth 100000 in
theorem c_X10_can (l : Launch) (X : gX) (τ : gτ) (n : Nat) (x0 : Nat) (x1 : Int32) (G : gG) (h0 : gK τ x0 10) {r : Int32} {G' : gG} (h : f_X10_can τ n x0 x1 G = some (r, G')) : gM l X τ yX10_can cX10_can 4 (some .int) rm_X10_can [.ref x0, .int x1] G (some (.int r)) G' := by
  refine g_body (by decide +kernel) (Nat.le_of_ble_eq_true rfl) ?_
  intro p e s m args below meth c ls fx hr hw hl
  have fx : gFx X p s m args meth c cX10_can 4 RX10 := fx
  have hl : lv_has ls 4 [(0, .ref x0), (1, .int x1)] := hl
  have hok : gOk (f_X10_can τ n x0 x1 G) (fun q => q = (r, G')) := ⟨_, h, rfl⟩
  unfold f_X10_can at hok
  show W p l e rm_X10_can s m args below meth c s.heap [] 0 0 (MQ below (gQ X τ (some (.int r)) G') args s 0 0 (gFree X)) _
  refine lv_iconst (v := 0) fx.1 fx.2.1 dX10_can_0 (by decide) ?_
  refine lv_istore_n (lv' := [(2, .int (0 : Int32)), (0, .ref x0), (1, .int x1)]) fx.1 fx.2.1 dX10_can_1 rfl hl (by decide) rfl (fun ls hl => ?_)
  refine lv_iload_n fx.1 fx.2.1 dX10_can_2 rfl (lv_at hl 2 rfl) ?_
  refine g_if_ne (tgt := 43) fx dX10_can_3 (by decide) hok (fun hok => ?_) (fun hok => ?_)
  · refine lv_iconst (v := 0) fx.1 fx.2.1 dX10_can_6 (by decide) ?_
    refine lv_istore_n (lv' := [(3, .int (0 : Int32)), (2, .int (0 : Int32)), (0, .ref x0), (1, .int x1)]) fx.1 fx.2.1 dX10_can_7 rfl hl (by decide) rfl (fun ls hl => ?_)
    refine w_l_X10_can_8 fx n x0 h0 ?_ n (0 : Int32) (0 : Int32) G _ _ _  hw (lv_sub hl [2, 1, 0] rfl) (gOk_bindK hok)
    intro z9 G10 H locs ls hw hl hok
    have hok : gOk (ρ := Int32 × gG) (some (z9, G10)) _ := hok
    refine lv_iload_n fx.1 fx.2.1 dX10_can_41 rfl (lv_at hl 0 rfl) ?_
    cases gOk_some hok
    exact g_iret fx hw hr dX10_can_42
  · refine lv_iconst (v := 0) fx.1 fx.2.1 dX10_can_43 (by decide) ?_
    refine lv_istore_n (lv' := [(3, .int (0 : Int32)), (2, .int (0 : Int32)), (0, .ref x0), (1, .int x1)]) fx.1 fx.2.1 dX10_can_44 rfl hl (by decide) rfl (fun ls hl => ?_)
    refine w_l_X10_can_45 fx n x0 h0 ?_ n (0 : Int32) (0 : Int32) G _ _ _  hw (lv_sub hl [2, 1, 0] rfl) (gOk_bindK hok)
    intro z20 G21 H locs ls hw hl hok
    have hok : gOk (ρ := Int32 × gG) (some (z20, G21)) _ := hok
    refine lv_iload_n fx.1 fx.2.1 dX10_can_85 rfl (lv_at hl 0 rfl) ?_
    cases gOk_some hok
    exact g_iret fx hw hr dX10_can_86
theorem dX10_markWithOneMore_0 : decode cX10_markWithOneMore 0 = .ok (.iconst 0, 1) := by decide +kernel
theorem dX10_markWithOneMore_1 : decode cX10_markWithOneMore 1 = .ok (.istore_n 3, 1) := by decide +kernel
theorem dX10_markWithOneMore_2 : decode cX10_markWithOneMore 2 = .ok (.iload_n 3, 1) := by decide +kernel
theorem dX10_markWithOneMore_3 : decode cX10_markWithOneMore 3 = .ok (.aload_n 0, 1) := by decide +kernel
theorem dX10_markWithOneMore_4 : decode cX10_markWithOneMore 4 = .ok (.getfield 70, 3) := by decide +kernel
theorem dX10_markWithOneMore_7 : decode cX10_markWithOneMore 7 = .ok (.getfield 332, 3) := by decide +kernel
theorem dX10_markWithOneMore_10 : decode cX10_markWithOneMore 10 = .ok (.if_icmp .ge 29, 3) := by decide +kernel
theorem dX10_markWithOneMore_13 : decode cX10_markWithOneMore 13 = .ok (.iload_n 2, 1) := by decide +kernel
theorem dX10_markWithOneMore_14 : decode cX10_markWithOneMore 14 = .ok (.iload_n 3, 1) := by decide +kernel
theorem dX10_markWithOneMore_15 : decode cX10_markWithOneMore 15 = .ok (.ishr, 1) := by decide +kernel
theorem dX10_markWithOneMore_16 : decode cX10_markWithOneMore 16 = .ok (.iconst 1, 1) := by decide +kernel
theorem dX10_markWithOneMore_17 : decode cX10_markWithOneMore 17 = .ok (.iand, 1) := by decide +kernel
theorem dX10_markWithOneMore_18 : decode cX10_markWithOneMore 18 = .ok (.iconst 1, 1) := by decide +kernel
theorem dX10_markWithOneMore_19 : decode cX10_markWithOneMore 19 = .ok (.if_icmp .ne 14, 3) := by decide +kernel
theorem dX10_markWithOneMore_22 : decode cX10_markWithOneMore 22 = .ok (.aload_n 0, 1) := by decide +kernel
theorem dX10_markWithOneMore_23 : decode cX10_markWithOneMore 23 = .ok (.getfield 60, 3) := by decide +kernel
theorem dX10_markWithOneMore_26 : decode cX10_markWithOneMore 26 = .ok (.iload_n 1, 1) := by decide +kernel
theorem dX10_markWithOneMore_27 : decode cX10_markWithOneMore 27 = .ok (.iconst 1, 1) := by decide +kernel
theorem dX10_markWithOneMore_28 : decode cX10_markWithOneMore 28 = .ok (.iload_n 3, 1) := by decide +kernel
theorem dX10_markWithOneMore_29 : decode cX10_markWithOneMore 29 = .ok (.ishl, 1) := by decide +kernel
theorem dX10_markWithOneMore_30 : decode cX10_markWithOneMore 30 = .ok (.ior, 1) := by decide +kernel
theorem dX10_markWithOneMore_31 : decode cX10_markWithOneMore 31 = .ok (.iconst 1, 1) := by decide +kernel
theorem dX10_markWithOneMore_32 : decode cX10_markWithOneMore 32 = .ok (.iastore, 1) := by decide +kernel
theorem dX10_markWithOneMore_33 : decode cX10_markWithOneMore 33 = .ok (.iinc 3 1, 3) := by decide +kernel
theorem dX10_markWithOneMore_36 : decode cX10_markWithOneMore 36 = .ok (.goto (-34), 3) := by decide +kernel
theorem dX10_markWithOneMore_39 : decode cX10_markWithOneMore 39 = .ok (.return_, 1) := by decide +kernel
theorem lf_RX10_60 : gLf RX10 60 10 7 := ⟨(RX10, TX10, 15), rfl, by decide, wA_t (wt2 (List.mem_of_getElem? (i := 133) (by decide +kernel))) (by decide +kernel), rfl⟩
def rm_X10_markWithOneMore : Room := { frames := 0, cells := 0, slots := 0, locals := 0 }
def b_X10_markWithOneMore_2 (τ : gτ) (n : Nat) (x0 : Nat) (x1 : Int32) (x2 : Int32) (x3 : Int32) (G : gG) : Option ((Int32 × gG) ⊕ ((gG))) :=
  (gr G 10 10 x0).bind fun a1 =>
  if (gi G 6 6 a1) ≤ x3 then (some (.inr G))
  else (if ((x2 >>> (x3 &&& 31)) &&& (1 : Int32)) = (1 : Int32) then ((gr G 10 7 x0).bind fun a2 =>
  gchk (gIn (x1 ||| ((1 : Int32) <<< (x3 &&& 31))) (gn τ a2)) <| gLet (gse G a2 (Int32.toNatClampNeg (x1 ||| ((1 : Int32) <<< (x3 &&& 31)))) (1 : Int32)) fun G3 =>
  gLet (x3 + 1) fun v4 =>
  some (.inl (v4, G3)))
  else (gLet (x3 + 1) fun v5 =>
  some (.inl (v5, G))))
def l_X10_markWithOneMore_2 (τ : gτ) (n : Nat) (x0 : Nat) (x1 : Int32) (x2 : Int32) (x3 : Int32) (G : gG) : Option ((gG)) :=
  gIter (fun (q : Int32 × gG) => b_X10_markWithOneMore_2 τ n x0 x1 x2 q.1 q.2) n (x3, G)
def f_X10_markWithOneMore (τ : gτ) (n : Nat) (x0 : Nat) (x1 : Int32) (x2 : Int32) (G : gG) : Option (gG) :=
  (l_X10_markWithOneMore_2 τ n x0 x1 x2 (0 : Int32) G).bind fun q => gLet q fun G6 => 
  some G6
set_option maxHeartbeats 4000000 in
set_option maxRecDepth 100000 in
theorem w_b_X10_markWithOneMore_2 {X : gX} {τ : gτ} {p : Program} {l : Launch} {e : Env} {s : State} {m : MethodId} {args : Array Value} {below : List Frame} {meth : Method} {c : Code} (fx : gFx X p s m args meth c cX10_markWithOneMore 4 RX10) (n : Nat) (x0 : Nat) (x1 : Int32) (x2 : Int32) (x3 : Int32) (h0 : gK τ x0 10) {Q : State → Prop} {K : ((Int32 × gG) ⊕ ((gG))) → Prop} {G : gG} {H : Heap} {locs : List Loc} {ls : Array Slot} (hw : gHw X τ G H locs) (hl : lv_has ls 4 [(0, .ref x0), (1, .int x1), (2, .int x2), (3, .int x3)]) (hok : gOk (b_X10_markWithOneMore_2 τ n x0 x1 x2 x3 G) K) (hc : ∀ (y3 : Int32) (G : gG) (H : Heap) (locs : List Loc) (ls : Array Slot), gHw X τ G H locs → lv_has ls 4 [(0, .ref x0), (1, .int x1), (2, .int x2), (3, .int y3)] → K (.inl (y3, G)) → W p l e rm_X10_markWithOneMore s m args below meth c H locs 0 0 Q (F0 m 2 ls [])) (hx0 : ∀ (G : gG) (H : Heap) (locs : List Loc) (ls : Array Slot), gHw X τ G H locs → lv_has ls 4 [] → K (.inr G) → W p l e rm_X10_markWithOneMore s m args below meth c H locs 0 0 Q (F0 m 39 ls [])) : W p l e rm_X10_markWithOneMore s m args below meth c H locs 0 0 Q (F0 m 2 ls []) := by
  unfold b_X10_markWithOneMore_2 at hok
  refine lv_iload_n fx.1 fx.2.1 dX10_markWithOneMore_2 rfl (lv_at hl 3 rfl) ?_
  refine lv_aload_n fx.1 fx.2.1 dX10_markWithOneMore_3 rfl (lv_at hl 0 rfl) ?_
  refine g_getr fx hw h0 lf_RX10_70 rfl dX10_markWithOneMore_4 hok (fun a1 h_a1 hok => ?_)
  refine g_geti fx hw h_a1 lf_RX10_332 rfl dX10_markWithOneMore_7 ?_
  refine g_icmp_ge (tgt := 39) fx dX10_markWithOneMore_10 (by decide) hok (fun hok => ?_) (fun hok => ?_)
  · exact hx0  G _ _ _  hw (lv_sub hl [] rfl) (gOk_some hok)
  · refine lv_iload_n fx.1 fx.2.1 dX10_markWithOneMore_13 rfl (lv_at hl 2 rfl) ?_
    refine lv_iload_n fx.1 fx.2.1 dX10_markWithOneMore_14 rfl (lv_at hl 3 rfl) ?_
    refine lv_ishr fx.1 fx.2.1 dX10_markWithOneMore_15 ?_
    refine lv_iconst (v := 1) fx.1 fx.2.1 dX10_markWithOneMore_16 (by decide) ?_
    refine lv_iand fx.1 fx.2.1 dX10_markWithOneMore_17 ?_
    refine lv_iconst (v := 1) fx.1 fx.2.1 dX10_markWithOneMore_18 (by decide) ?_
    refine g_icmp_ne (tgt := 33) fx dX10_markWithOneMore_19 (by decide) hok (fun hok => ?_) (fun hok => ?_)
    · refine lv_aload_n fx.1 fx.2.1 dX10_markWithOneMore_22 rfl (lv_at hl 0 rfl) ?_
      refine g_getr fx hw h0 lf_RX10_60 rfl dX10_markWithOneMore_23 hok (fun a2 h_a2 hok => ?_)
      refine lv_iload_n fx.1 fx.2.1 dX10_markWithOneMore_26 rfl (lv_at hl 1 rfl) ?_
      refine lv_iconst (v := 1) fx.1 fx.2.1 dX10_markWithOneMore_27 (by decide) ?_
      refine lv_iload_n fx.1 fx.2.1 dX10_markWithOneMore_28 rfl (lv_at hl 3 rfl) ?_
      refine lv_ishl fx.1 fx.2.1 dX10_markWithOneMore_29 ?_
      refine lv_ior fx.1 fx.2.1 dX10_markWithOneMore_30 ?_
      refine lv_iconst (v := 1) fx.1 fx.2.1 dX10_markWithOneMore_31 (by decide) ?_
      refine g_iast fx hw h_a2 dX10_markWithOneMore_32 hok (fun G3 H locs hw hok => ?_)
      obtain ⟨v4, e_v4, hok⟩ := gOk_let hok
      refine lv_iinc (v := v4) (lv' := [(3, .int v4), (0, .ref x0), (1, .int x1), (2, .int x2)]) fx.1 fx.2.1 dX10_markWithOneMore_33 hl (k := 3) rfl (by rw [e_v4]; rfl) (by decide) rfl (fun ls hl => ?_)
      refine lv_goto (tgt := 2) fx.1 fx.2.1 dX10_markWithOneMore_36 (by decide) ?_
      exact hc v4 G3 _ _ _  hw (lv_sub hl [1, 2, 3, 0] rfl) (gOk_some hok)
    · obtain ⟨v5, e_v5, hok⟩ := gOk_let hok
      refine lv_iinc (v := v5) (lv' := [(3, .int v5), (0, .ref x0), (1, .int x1), (2, .int x2)]) fx.1 fx.2.1 dX10_markWithOneMore_33 hl (k := 3) rfl (by rw [e_v5]; rfl) (by decide) rfl (fun ls hl => ?_)
      refine lv_goto (tgt := 2) fx.1 fx.2.1 dX10_markWithOneMore_36 (by decide) ?_
      exact hc v5 G _ _ _  hw (lv_sub hl [1, 2, 3, 0] rfl) (gOk_some hok)
theorem w_l_X10_markWithOneMore_2 {X : gX} {τ : gτ} {p : Program} {l : Launch} {e : Env} {s : State} {m : MethodId} {args : Array Value} {below : List Frame} {meth : Method} {c : Code} (fx : gFx X p s m args meth c cX10_markWithOneMore 4 RX10) (n : Nat) (x0 : Nat) (x1 : Int32) (x2 : Int32) (h0 : gK τ x0 10) {Q : State → Prop} {K : ((gG)) → Prop} (hx0 : ∀ (G : gG) (H : Heap) (locs : List Loc) (ls : Array Slot), gHw X τ G H locs → lv_has ls 4 [] → K G → W p l e rm_X10_markWithOneMore s m args below meth c H locs 0 0 Q (F0 m 39 ls [])) : ∀ (k : Nat) (x3 : Int32) (G : gG) (H : Heap) (locs : List Loc) (ls : Array Slot), gHw X τ G H locs → lv_has ls 4 [(0, .ref x0), (1, .int x1), (2, .int x2), (3, .int x3)] → gOk (gIter (fun (q : Int32 × gG) => b_X10_markWithOneMore_2 τ n x0 x1 x2 q.1 q.2) k (x3, G)) K → W p l e rm_X10_markWithOneMore s m args below meth c H locs 0 0 Q (F0 m 2 ls []) := by
  intro k
  induction k with
  | zero =>
    intro x3 G H locs ls hw hl hok
    exact gOk_iter0 hok
  | succ k hc =>
    intro x3 G H locs ls hw hl hok
    exact w_b_X10_markWithOneMore_2 fx n x0 x1 x2 x3 h0 hw hl (gOk_iter hok) hc hx0
set_option maxHeartbeats 4000000 in
set_option maxRecDepth 100000 in
theorem c_X10_markWithOneMore (l : Launch) (X : gX) (τ : gτ) (n : Nat) (x0 : Nat) (x1 : Int32) (x2 : Int32) (G : gG) (h0 : gK τ x0 10) {G' : gG} (h : f_X10_markWithOneMore τ n x0 x1 x2 G = some G') : gM l X τ yX10_markWithOneMore cX10_markWithOneMore 4 none rm_X10_markWithOneMore [.ref x0, .int x1, .int x2] G none G' := by
  refine g_body (by decide +kernel) (Nat.le_of_ble_eq_true rfl) ?_
  intro p e s m args below meth c ls fx hr hw hl
  have fx : gFx X p s m args meth c cX10_markWithOneMore 4 RX10 := fx
  have hl : lv_has ls 4 [(0, .ref x0), (1, .int x1), (2, .int x2)] := hl
  have hok : gOk (f_X10_markWithOneMore τ n x0 x1 x2 G) (fun q => q = G') := ⟨_, h, rfl⟩
  unfold f_X10_markWithOneMore at hok
  show W p l e rm_X10_markWithOneMore s m args below meth c s.heap [] 0 0 (MQ below (gQ X τ none G') args s 0 0 (gFree X)) _
  refine lv_iconst (v := 0) fx.1 fx.2.1 dX10_markWithOneMore_0 (by decide) ?_
  refine lv_istore_n (lv' := [(3, .int (0 : Int32)), (0, .ref x0), (1, .int x1), (2, .int x2)]) fx.1 fx.2.1 dX10_markWithOneMore_1 rfl hl (by decide) rfl (fun ls hl => ?_)
  refine w_l_X10_markWithOneMore_2 fx n x0 x1 x2 h0 ?_ n (0 : Int32) G _ _ _  hw (lv_sub hl [1, 2, 3, 0] rfl) (gOk_bindK hok)
  intro G6 H locs ls hw hl hok
  have hok : gOk (ρ := gG) (some G6) _ := hok
  cases gOk_some hok
  exact g_vret fx hw hr dX10_markWithOneMore_39
theorem dX10_markMeetable_0 : decode cX10_markMeetable 0 = .ok (.iconst 0, 1) := by decide +kernel
theorem dX10_markMeetable_1 : decode cX10_markMeetable 1 = .ok (.istore_n 2, 1) := by decide +kernel
theorem dX10_markMeetable_2 : decode cX10_markMeetable 2 = .ok (.iload_n 2, 1) := by decide +kernel
theorem dX10_markMeetable_3 : decode cX10_markMeetable 3 = .ok (.iload_n 1, 1) := by decide +kernel
theorem dX10_markMeetable_4 : decode cX10_markMeetable 4 = .ok (.if_icmp .ge 24, 3) := by decide +kernel
theorem dX10_markMeetable_7 : decode cX10_markMeetable 7 = .ok (.aload_n 0, 1) := by decide +kernel
theorem dX10_markMeetable_8 : decode cX10_markMeetable 8 = .ok (.getfield 60, 3) := by decide +kernel
theorem dX10_markMeetable_11 : decode cX10_markMeetable 11 = .ok (.iload_n 2, 1) := by decide +kernel
theorem dX10_markMeetable_12 : decode cX10_markMeetable 12 = .ok (.iload_n 2, 1) := by decide +kernel
theorem dX10_markMeetable_13 : decode cX10_markMeetable 13 = .ok (.ifCond .ne 7, 3) := by decide +kernel
theorem dX10_markMeetable_16 : decode cX10_markMeetable 16 = .ok (.iconst 1, 1) := by decide +kernel
theorem dX10_markMeetable_17 : decode cX10_markMeetable 17 = .ok (.goto 4, 3) := by decide +kernel
theorem dX10_markMeetable_20 : decode cX10_markMeetable 20 = .ok (.iconst 0, 1) := by decide +kernel
theorem dX10_markMeetable_21 : decode cX10_markMeetable 21 = .ok (.iastore, 1) := by decide +kernel
theorem dX10_markMeetable_22 : decode cX10_markMeetable 22 = .ok (.iinc 2 1, 3) := by decide +kernel
theorem dX10_markMeetable_25 : decode cX10_markMeetable 25 = .ok (.goto (-23), 3) := by decide +kernel
theorem dX10_markMeetable_28 : decode cX10_markMeetable 28 = .ok (.iconst 0, 1) := by decide +kernel
theorem dX10_markMeetable_29 : decode cX10_markMeetable 29 = .ok (.istore_n 2, 1) := by decide +kernel
theorem dX10_markMeetable_30 : decode cX10_markMeetable 30 = .ok (.iload_n 2, 1) := by decide +kernel
theorem dX10_markMeetable_31 : decode cX10_markMeetable 31 = .ok (.aload_n 0, 1) := by decide +kernel
theorem dX10_markMeetable_32 : decode cX10_markMeetable 32 = .ok (.getfield 70, 3) := by decide +kernel
theorem dX10_markMeetable_35 : decode cX10_markMeetable 35 = .ok (.getfield 286, 3) := by decide +kernel
theorem dX10_markMeetable_38 : decode cX10_markMeetable 38 = .ok (.if_icmp .ge 66, 3) := by decide +kernel
theorem dX10_markMeetable_41 : decode cX10_markMeetable 41 = .ok (.aload_n 0, 1) := by decide +kernel
theorem dX10_markMeetable_42 : decode cX10_markMeetable 42 = .ok (.aload_n 0, 1) := by decide +kernel
theorem dX10_markMeetable_43 : decode cX10_markMeetable 43 = .ok (.getfield 70, 3) := by decide +kernel
theorem dX10_markMeetable_46 : decode cX10_markMeetable 46 = .ok (.getfield 325, 3) := by decide +kernel
theorem dX10_markMeetable_49 : decode cX10_markMeetable 49 = .ok (.iload_n 2, 1) := by decide +kernel
theorem dX10_markMeetable_50 : decode cX10_markMeetable 50 = .ok (.aaload, 1) := by decide +kernel
theorem dX10_markMeetable_51 : decode cX10_markMeetable 51 = .ok (.invokevirtual 329, 3) := by decide +kernel
theorem dX10_markMeetable_54 : decode cX10_markMeetable 54 = .ok (.istore_n 3, 1) := by decide +kernel
theorem dX10_markMeetable_55 : decode cX10_markMeetable 55 = .ok (.iload_n 1, 1) := by decide +kernel
theorem dX10_markMeetable_56 : decode cX10_markMeetable 56 = .ok (.iconst 1, 1) := by decide +kernel
theorem dX10_markMeetable_57 : decode cX10_markMeetable 57 = .ok (.isub, 1) := by decide +kernel
theorem dX10_markMeetable_58 : decode cX10_markMeetable 58 = .ok (.istore 4, 2) := by decide +kernel
theorem dX10_markMeetable_60 : decode cX10_markMeetable 60 = .ok (.iload 4, 2) := by decide +kernel
theorem dX10_markMeetable_62 : decode cX10_markMeetable 62 = .ok (.ifCond .lt 36, 3) := by decide +kernel
theorem dX10_markMeetable_65 : decode cX10_markMeetable 65 = .ok (.iload_n 3, 1) := by decide +kernel
theorem dX10_markMeetable_66 : decode cX10_markMeetable 66 = .ok (.ifCond .eq 32, 3) := by decide +kernel
theorem dX10_markMeetable_69 : decode cX10_markMeetable 69 = .ok (.aload_n 0, 1) := by decide +kernel
theorem dX10_markMeetable_70 : decode cX10_markMeetable 70 = .ok (.getfield 60, 3) := by decide +kernel
theorem dX10_markMeetable_73 : decode cX10_markMeetable 73 = .ok (.iload 4, 2) := by decide +kernel
theorem dX10_markMeetable_75 : decode cX10_markMeetable 75 = .ok (.iaload, 1) := by decide +kernel
theorem dX10_markMeetable_76 : decode cX10_markMeetable 76 = .ok (.iconst 1, 1) := by decide +kernel
theorem dX10_markMeetable_77 : decode cX10_markMeetable 77 = .ok (.if_icmp .ne 15, 3) := by decide +kernel
theorem dX10_markMeetable_80 : decode cX10_markMeetable 80 = .ok (.aload_n 0, 1) := by decide +kernel
theorem dX10_markMeetable_81 : decode cX10_markMeetable 81 = .ok (.iload 4, 2) := by decide +kernel
theorem dX10_markMeetable_83 : decode cX10_markMeetable 83 = .ok (.iload_n 3, 1) := by decide +kernel
theorem dX10_markMeetable_84 : decode cX10_markMeetable 84 = .ok (.iload 4, 2) := by decide +kernel
theorem dX10_markMeetable_86 : decode cX10_markMeetable 86 = .ok (.iconst (-1), 1) := by decide +kernel
theorem dX10_markMeetable_87 : decode cX10_markMeetable 87 = .ok (.ixor, 1) := by decide +kernel
theorem dX10_markMeetable_88 : decode cX10_markMeetable 88 = .ok (.iand, 1) := by decide +kernel
theorem dX10_markMeetable_89 : decode cX10_markMeetable 89 = .ok (.invokevirtual 482, 3) := by decide +kernel
theorem dX10_markMeetable_92 : decode cX10_markMeetable 92 = .ok (.iinc 4 (-1), 3) := by decide +kernel
theorem dX10_markMeetable_95 : decode cX10_markMeetable 95 = .ok (.goto (-35), 3) := by decide +kernel
theorem dX10_markMeetable_98 : decode cX10_markMeetable 98 = .ok (.iinc 2 1, 3) := by decide +kernel
theorem dX10_markMeetable_101 : decode cX10_markMeetable 101 = .ok (.goto (-71), 3) := by decide +kernel
theorem dX10_markMeetable_104 : decode cX10_markMeetable 104 = .ok (.return_, 1) := by decide +kernel
theorem lv_RX10_482 : gLv RX10 482 RX10 yX10_markWithOneMore cX10_markWithOneMore 4 none 2 := gLv_of (wA_t (wt3 (List.mem_of_getElem? (i := 45) (by decide +kernel))) (by decide +kernel)) (wA_t (wt3 (List.mem_of_getElem? (i := 47) (by decide +kernel))) (by decide +kernel)) (wA_of (List.mem_append_left _ (List.mem_map.mpr ⟨(⟨"YearRope", "markWithOneMore", "(II)V"⟩, 15), wp1 (List.mem_of_getElem? (i := 6) (by decide +kernel)), rfl⟩)) (by decide +kernel)) (wA_t (wt1 (List.mem_of_getElem? (i := 1) (by decide +kernel))) (by decide +kernel)) (wA_t (wt3 (List.mem_of_getElem? (i := 48) (by decide +kernel))) (by decide +kernel)) ⟨rfl, by decide +kernel, by decide +kernel, by decide +kernel⟩
def rm_X10_markMeetable : Room := { frames := 5, cells := 0, slots := 0, locals := 121 }
def k_X10_markMeetable_21 (τ : gτ) (n : Nat) (x0 : Nat) (x1 : Int32) (x2 : Int32) (s0 : Nat) (s1 : Int32) (s2 : Int32) (G : gG) : Option ((Int32 × gG) ⊕ ((gG))) :=
  gchk (gIn s1 (gn τ s0)) <| gLet (gse G s0 (Int32.toNatClampNeg s1) s2) fun G2 =>
  gLet (x2 + 1) fun v3 =>
  some (.inl (v3, G2))
def b_X10_markMeetable_2 (τ : gτ) (n : Nat) (x0 : Nat) (x1 : Int32) (x2 : Int32) (G : gG) : Option ((Int32 × gG) ⊕ ((gG))) :=
  if x1 ≤ x2 then (some (.inr G))
  else ((gr G 10 7 x0).bind fun a1 =>
  if x2 = 0 then (k_X10_markMeetable_21 τ n x0 x1 x2 a1 x2 (1 : Int32) G)
  else (k_X10_markMeetable_21 τ n x0 x1 x2 a1 x2 (0 : Int32) G))
def l_X10_markMeetable_2 (τ : gτ) (n : Nat) (x0 : Nat) (x1 : Int32) (x2 : Int32) (G : gG) : Option ((gG)) :=
  gIter (fun (q : Int32 × gG) => b_X10_markMeetable_2 τ n x0 x1 q.1 q.2) n (x2, G)
def b_X10_markMeetable_60 (τ : gτ) (n : Nat) (x0 : Nat) (x1 : Int32) (x2 : Int32) (x3 : Int32) (x4 : Int32) (G : gG) : Option ((Int32 × gG) ⊕ ((gG))) :=
  if x4 < 0 then (some (.inr G))
  else (if x3 = 0 then (some (.inr G))
  else ((gr G 10 7 x0).bind fun a12 =>
  gchk (gIn x4 (gn τ a12)) <|
  if (ge G a12 (Int32.toNatClampNeg x4)) = (1 : Int32) then ((f_X10_markWithOneMore τ n x0 x4 (x3 &&& (x4 ^^^ (-1 : Int32))) G).bind fun G13 =>
  gLet (x4 + (-1)) fun v14 =>
  some (.inl (v14, G13)))
  else (gLet (x4 + (-1)) fun v15 =>
  some (.inl (v15, G)))))
def l_X10_markMeetable_60 (τ : gτ) (n : Nat) (x0 : Nat) (x1 : Int32) (x2 : Int32) (x3 : Int32) (x4 : Int32) (G : gG) : Option ((gG)) :=
  gIter (fun (q : Int32 × gG) => b_X10_markMeetable_60 τ n x0 x1 x2 x3 q.1 q.2) n (x4, G)
def b_X10_markMeetable_30 (τ : gτ) (n : Nat) (x0 : Nat) (x1 : Int32) (x2 : Int32) (G : gG) : Option ((Int32 × gG) ⊕ ((gG))) :=
  (gr G 10 10 x0).bind fun a5 =>
  if (gi G 6 5 a5) ≤ x2 then (some (.inr G))
  else ((gr G 10 10 x0).bind fun a6 =>
  (gr G 6 1 a6).bind fun a7 =>
  gchk (gIn x2 (gn τ a7)) <| (gq G a7 (Int32.toNatClampNeg x2)).bind fun a8 =>
  gBind2 (f_X10_ordersMetBy τ n x0 a8 G) fun v9 G10 =>
  gLet (x1 - (1 : Int32)) fun v11 =>
  (l_X10_markMeetable_60 τ n x0 x1 x2 v9 v11 G10).bind fun q => gLet q fun G16 => 
  gLet (x2 + 1) fun v17 =>
  some (.inl (v17, G16)))
def l_X10_markMeetable_30 (τ : gτ) (n : Nat) (x0 : Nat) (x1 : Int32) (x2 : Int32) (G : gG) : Option ((gG)) :=
  gIter (fun (q : Int32 × gG) => b_X10_markMeetable_30 τ n x0 x1 q.1 q.2) n (x2, G)
def k_X10_markMeetable_28 (τ : gτ) (n : Nat) (x0 : Nat) (x1 : Int32)  (G : gG) : Option (gG) :=
  (l_X10_markMeetable_30 τ n x0 x1 (0 : Int32) G).bind fun q => gLet q fun G18 => 
  some G18
def f_X10_markMeetable (τ : gτ) (n : Nat) (x0 : Nat) (x1 : Int32) (G : gG) : Option (gG) :=
  (l_X10_markMeetable_2 τ n x0 x1 (0 : Int32) G).bind fun q => gLet q fun G4 => 
  k_X10_markMeetable_28 τ n x0 x1  G4
set_option maxHeartbeats 4000000 in
set_option maxRecDepth 100000 in
theorem w_X10_markMeetable_21 {X : gX} {τ : gτ} {p : Program} {l : Launch} {e : Env} {s : State} {m : MethodId} {args : Array Value} {below : List Frame} {meth : Method} {c : Code} (fx : gFx X p s m args meth c cX10_markMeetable 5 RX10) (n : Nat) (x0 : Nat) (x1 : Int32) (x2 : Int32) (s0 : Nat) (s1 : Int32) (s2 : Int32) (h0 : gK τ x0 10) (hs0 : gK τ s0 13) {Q : State → Prop} {K : ((Int32 × gG) ⊕ ((gG))) → Prop} {G : gG} {H : Heap} {locs : List Loc} {ls : Array Slot} (hw : gHw X τ G H locs) (hl : lv_has ls 5 [(0, .ref x0), (1, .int x1), (2, .int x2)]) (hok : gOk (k_X10_markMeetable_21 τ n x0 x1 x2 s0 s1 s2 G) K) (hc : ∀ (y2 : Int32) (G : gG) (H : Heap) (locs : List Loc) (ls : Array Slot), gHw X τ G H locs → lv_has ls 5 [(0, .ref x0), (1, .int x1), (2, .int y2)] → K (.inl (y2, G)) → W p l e rm_X10_markMeetable s m args below meth c H locs 0 0 Q (F0 m 2 ls [])) (hx0 : ∀ (G : gG) (H : Heap) (locs : List Loc) (ls : Array Slot), gHw X τ G H locs → lv_has ls 5 [(0, .ref x0), (1, .int x1)] → K (.inr G) → W p l e rm_X10_markMeetable s m args below meth c H locs 0 0 Q (F0 m 28 ls [])) : W p l e rm_X10_markMeetable s m args below meth c H locs 0 0 Q (F0 m 21 ls [.int s2, .int s1, .ref s0]) := by
  unfold k_X10_markMeetable_21 at hok
  refine g_iast fx hw hs0 dX10_markMeetable_21 hok (fun G2 H locs hw hok => ?_)
  obtain ⟨v3, e_v3, hok⟩ := gOk_let hok
  refine lv_iinc (v := v3) (lv' := [(2, .int v3), (0, .ref x0), (1, .int x1)]) fx.1 fx.2.1 dX10_markMeetable_22 hl (k := 2) rfl (by rw [e_v3]; rfl) (by decide) rfl (fun ls hl => ?_)
  refine lv_goto (tgt := 2) fx.1 fx.2.1 dX10_markMeetable_25 (by decide) ?_
  exact hc v3 G2 _ _ _  hw (lv_sub hl [1, 2, 0] rfl) (gOk_some hok)
set_option maxHeartbeats 4000000 in
set_option maxRecDepth 100000 in
theorem w_b_X10_markMeetable_2 {X : gX} {τ : gτ} {p : Program} {l : Launch} {e : Env} {s : State} {m : MethodId} {args : Array Value} {below : List Frame} {meth : Method} {c : Code} (fx : gFx X p s m args meth c cX10_markMeetable 5 RX10) (n : Nat) (x0 : Nat) (x1 : Int32) (x2 : Int32) (h0 : gK τ x0 10) {Q : State → Prop} {K : ((Int32 × gG) ⊕ ((gG))) → Prop} {G : gG} {H : Heap} {locs : List Loc} {ls : Array Slot} (hw : gHw X τ G H locs) (hl : lv_has ls 5 [(0, .ref x0), (1, .int x1), (2, .int x2)]) (hok : gOk (b_X10_markMeetable_2 τ n x0 x1 x2 G) K) (hc : ∀ (y2 : Int32) (G : gG) (H : Heap) (locs : List Loc) (ls : Array Slot), gHw X τ G H locs → lv_has ls 5 [(0, .ref x0), (1, .int x1), (2, .int y2)] → K (.inl (y2, G)) → W p l e rm_X10_markMeetable s m args below meth c H locs 0 0 Q (F0 m 2 ls [])) (hx0 : ∀ (G : gG) (H : Heap) (locs : List Loc) (ls : Array Slot), gHw X τ G H locs → lv_has ls 5 [(0, .ref x0), (1, .int x1)] → K (.inr G) → W p l e rm_X10_markMeetable s m args below meth c H locs 0 0 Q (F0 m 28 ls [])) : W p l e rm_X10_markMeetable s m args below meth c H locs 0 0 Q (F0 m 2 ls []) := by
  unfold b_X10_markMeetable_2 at hok
  refine lv_iload_n fx.1 fx.2.1 dX10_markMeetable_2 rfl (lv_at hl 2 rfl) ?_
  refine lv_iload_n fx.1 fx.2.1 dX10_markMeetable_3 rfl (lv_at hl 1 rfl) ?_
  refine g_icmp_ge (tgt := 28) fx dX10_markMeetable_4 (by decide) hok (fun hok => ?_) (fun hok => ?_)
  · exact hx0  G _ _ _  hw (lv_sub hl [0, 1] rfl) (gOk_some hok)
  · refine lv_aload_n fx.1 fx.2.1 dX10_markMeetable_7 rfl (lv_at hl 0 rfl) ?_
    refine g_getr fx hw h0 lf_RX10_60 rfl dX10_markMeetable_8 hok (fun a1 h_a1 hok => ?_)
    refine lv_iload_n fx.1 fx.2.1 dX10_markMeetable_11 rfl (lv_at hl 2 rfl) ?_
    refine lv_iload_n fx.1 fx.2.1 dX10_markMeetable_12 rfl (lv_at hl 2 rfl) ?_
    refine g_if_ne (tgt := 20) fx dX10_markMeetable_13 (by decide) hok (fun hok => ?_) (fun hok => ?_)
    · refine lv_iconst (v := 1) fx.1 fx.2.1 dX10_markMeetable_16 (by decide) ?_
      refine lv_goto (tgt := 21) fx.1 fx.2.1 dX10_markMeetable_17 (by decide) ?_
      exact w_X10_markMeetable_21 fx n x0 x1 x2 a1 x2 (1 : Int32) h0 h_a1 hw (lv_sub hl [0, 1, 2] rfl) hok hc hx0
    · refine lv_iconst (v := 0) fx.1 fx.2.1 dX10_markMeetable_20 (by decide) ?_
      exact w_X10_markMeetable_21 fx n x0 x1 x2 a1 x2 (0 : Int32) h0 h_a1 hw (lv_sub hl [0, 1, 2] rfl) hok hc hx0
theorem w_l_X10_markMeetable_2 {X : gX} {τ : gτ} {p : Program} {l : Launch} {e : Env} {s : State} {m : MethodId} {args : Array Value} {below : List Frame} {meth : Method} {c : Code} (fx : gFx X p s m args meth c cX10_markMeetable 5 RX10) (n : Nat) (x0 : Nat) (x1 : Int32) (h0 : gK τ x0 10) {Q : State → Prop} {K : ((gG)) → Prop} (hx0 : ∀ (G : gG) (H : Heap) (locs : List Loc) (ls : Array Slot), gHw X τ G H locs → lv_has ls 5 [(0, .ref x0), (1, .int x1)] → K G → W p l e rm_X10_markMeetable s m args below meth c H locs 0 0 Q (F0 m 28 ls [])) : ∀ (k : Nat) (x2 : Int32) (G : gG) (H : Heap) (locs : List Loc) (ls : Array Slot), gHw X τ G H locs → lv_has ls 5 [(0, .ref x0), (1, .int x1), (2, .int x2)] → gOk (gIter (fun (q : Int32 × gG) => b_X10_markMeetable_2 τ n x0 x1 q.1 q.2) k (x2, G)) K → W p l e rm_X10_markMeetable s m args below meth c H locs 0 0 Q (F0 m 2 ls []) := by
  intro k
  induction k with
  | zero =>
    intro x2 G H locs ls hw hl hok
    exact gOk_iter0 hok
  | succ k hc =>
    intro x2 G H locs ls hw hl hok
    exact w_b_X10_markMeetable_2 fx n x0 x1 x2 h0 hw hl (gOk_iter hok) hc hx0
set_option maxHeartbeats 4000000 in
set_option maxRecDepth 100000 in
theorem w_b_X10_markMeetable_60 {X : gX} {τ : gτ} {p : Program} {l : Launch} {e : Env} {s : State} {m : MethodId} {args : Array Value} {below : List Frame} {meth : Method} {c : Code} (fx : gFx X p s m args meth c cX10_markMeetable 5 RX10) (n : Nat) (x0 : Nat) (x1 : Int32) (x2 : Int32) (x3 : Int32) (x4 : Int32) (h0 : gK τ x0 10) {Q : State → Prop} {K : ((Int32 × gG) ⊕ ((gG))) → Prop} {G : gG} {H : Heap} {locs : List Loc} {ls : Array Slot} (hw : gHw X τ G H locs) (hl : lv_has ls 5 [(0, .ref x0), (1, .int x1), (2, .int x2), (3, .int x3), (4, .int x4)]) (hok : gOk (b_X10_markMeetable_60 τ n x0 x1 x2 x3 x4 G) K) (hc : ∀ (y4 : Int32) (G : gG) (H : Heap) (locs : List Loc) (ls : Array Slot), gHw X τ G H locs → lv_has ls 5 [(0, .ref x0), (1, .int x1), (2, .int x2), (3, .int x3), (4, .int y4)] → K (.inl (y4, G)) → W p l e rm_X10_markMeetable s m args below meth c H locs 0 0 Q (F0 m 60 ls [])) (hx0 : ∀ (G : gG) (H : Heap) (locs : List Loc) (ls : Array Slot), gHw X τ G H locs → lv_has ls 5 [(0, .ref x0), (1, .int x1), (2, .int x2)] → K (.inr G) → W p l e rm_X10_markMeetable s m args below meth c H locs 0 0 Q (F0 m 98 ls [])) : W p l e rm_X10_markMeetable s m args below meth c H locs 0 0 Q (F0 m 60 ls []) := by
  unfold b_X10_markMeetable_60 at hok
  refine lv_iload fx.1 fx.2.1 dX10_markMeetable_60 (lv_at hl 4 rfl) ?_
  refine g_if_lt (tgt := 98) fx dX10_markMeetable_62 (by decide) hok (fun hok => ?_) (fun hok => ?_)
  · exact hx0  G _ _ _  hw (lv_sub hl [0, 1, 2] rfl) (gOk_some hok)
  · refine lv_iload_n fx.1 fx.2.1 dX10_markMeetable_65 rfl (lv_at hl 3 rfl) ?_
    refine g_if_eq (tgt := 98) fx dX10_markMeetable_66 (by decide) hok (fun hok => ?_) (fun hok => ?_)
    · exact hx0  G _ _ _  hw (lv_sub hl [0, 1, 2] rfl) (gOk_some hok)
    · refine lv_aload_n fx.1 fx.2.1 dX10_markMeetable_69 rfl (lv_at hl 0 rfl) ?_
      refine g_getr fx hw h0 lf_RX10_60 rfl dX10_markMeetable_70 hok (fun a12 h_a12 hok => ?_)
      refine lv_iload fx.1 fx.2.1 dX10_markMeetable_73 (lv_at hl 4 rfl) ?_
      refine g_iald fx hw h_a12 dX10_markMeetable_75 hok (fun hok => ?_)
      refine lv_iconst (v := 1) fx.1 fx.2.1 dX10_markMeetable_76 (by decide) ?_
      refine g_icmp_ne (tgt := 92) fx dX10_markMeetable_77 (by decide) hok (fun hok => ?_) (fun hok => ?_)
      · refine lv_aload_n fx.1 fx.2.1 dX10_markMeetable_80 rfl (lv_at hl 0 rfl) ?_
        refine lv_iload fx.1 fx.2.1 dX10_markMeetable_81 (lv_at hl 4 rfl) ?_
        refine lv_iload_n fx.1 fx.2.1 dX10_markMeetable_83 rfl (lv_at hl 3 rfl) ?_
        refine lv_iload fx.1 fx.2.1 dX10_markMeetable_84 (lv_at hl 4 rfl) ?_
        refine lv_iconst (v := (-1)) fx.1 fx.2.1 dX10_markMeetable_86 (by decide) ?_
        refine lv_ixor fx.1 fx.2.1 dX10_markMeetable_87 ?_
        refine lv_iand fx.1 fx.2.1 dX10_markMeetable_88 ?_
        obtain ⟨G13, hf, hok⟩ := gOk_bind hok
        refine g_callV0 (κ := 10) fx hw (c_X10_markWithOneMore l X τ n x0 x4 (x3 &&& (x4 ^^^ (-1 : Int32))) G h0 hf) lv_RX10_482 ⟨rfl, rfl⟩ rfl rfl h0 rfl hl.1 rfl ⟨Nat.le_of_ble_eq_true rfl, Nat.le_of_ble_eq_true rfl⟩ (Nat.le_of_ble_eq_true rfl) ⟨Nat.le_of_ble_eq_true rfl, Nat.le_of_ble_eq_true rfl⟩ dX10_markMeetable_89 (fun H locs hw => ?_)
        obtain ⟨v14, e_v14, hok⟩ := gOk_let hok
        refine lv_iinc (v := v14) (lv' := [(4, .int v14), (0, .ref x0), (1, .int x1), (2, .int x2), (3, .int x3)]) fx.1 fx.2.1 dX10_markMeetable_92 hl (k := 4) rfl (by rw [e_v14]; rfl) (by decide) rfl (fun ls hl => ?_)
        refine lv_goto (tgt := 60) fx.1 fx.2.1 dX10_markMeetable_95 (by decide) ?_
        exact hc v14 G13 _ _ _  hw (lv_sub hl [1, 2, 3, 4, 0] rfl) (gOk_some hok)
      · obtain ⟨v15, e_v15, hok⟩ := gOk_let hok
        refine lv_iinc (v := v15) (lv' := [(4, .int v15), (0, .ref x0), (1, .int x1), (2, .int x2), (3, .int x3)]) fx.1 fx.2.1 dX10_markMeetable_92 hl (k := 4) rfl (by rw [e_v15]; rfl) (by decide) rfl (fun ls hl => ?_)
        refine lv_goto (tgt := 60) fx.1 fx.2.1 dX10_markMeetable_95 (by decide) ?_
        exact hc v15 G _ _ _  hw (lv_sub hl [1, 2, 3, 4, 0] rfl) (gOk_some hok)
theorem w_l_X10_markMeetable_60 {X : gX} {τ : gτ} {p : Program} {l : Launch} {e : Env} {s : State} {m : MethodId} {args : Array Value} {below : List Frame} {meth : Method} {c : Code} (fx : gFx X p s m args meth c cX10_markMeetable 5 RX10) (n : Nat) (x0 : Nat) (x1 : Int32) (x2 : Int32) (x3 : Int32) (h0 : gK τ x0 10) {Q : State → Prop} {K : ((gG)) → Prop} (hx0 : ∀ (G : gG) (H : Heap) (locs : List Loc) (ls : Array Slot), gHw X τ G H locs → lv_has ls 5 [(0, .ref x0), (1, .int x1), (2, .int x2)] → K G → W p l e rm_X10_markMeetable s m args below meth c H locs 0 0 Q (F0 m 98 ls [])) : ∀ (k : Nat) (x4 : Int32) (G : gG) (H : Heap) (locs : List Loc) (ls : Array Slot), gHw X τ G H locs → lv_has ls 5 [(0, .ref x0), (1, .int x1), (2, .int x2), (3, .int x3), (4, .int x4)] → gOk (gIter (fun (q : Int32 × gG) => b_X10_markMeetable_60 τ n x0 x1 x2 x3 q.1 q.2) k (x4, G)) K → W p l e rm_X10_markMeetable s m args below meth c H locs 0 0 Q (F0 m 60 ls []) := by
  intro k
  induction k with
  | zero =>
    intro x4 G H locs ls hw hl hok
    exact gOk_iter0 hok
  | succ k hc =>
    intro x4 G H locs ls hw hl hok
    exact w_b_X10_markMeetable_60 fx n x0 x1 x2 x3 x4 h0 hw hl (gOk_iter hok) hc hx0
set_option maxHeartbeats 4000000 in
set_option maxRecDepth 100000 in
theorem w_b_X10_markMeetable_30 {X : gX} {τ : gτ} {p : Program} {l : Launch} {e : Env} {s : State} {m : MethodId} {args : Array Value} {below : List Frame} {meth : Method} {c : Code} (fx : gFx X p s m args meth c cX10_markMeetable 5 RX10) (n : Nat) (x0 : Nat) (x1 : Int32) (x2 : Int32) (h0 : gK τ x0 10) {Q : State → Prop} {K : ((Int32 × gG) ⊕ ((gG))) → Prop} {G : gG} {H : Heap} {locs : List Loc} {ls : Array Slot} (hw : gHw X τ G H locs) (hl : lv_has ls 5 [(0, .ref x0), (1, .int x1), (2, .int x2)]) (hok : gOk (b_X10_markMeetable_30 τ n x0 x1 x2 G) K) (hc : ∀ (y2 : Int32) (G : gG) (H : Heap) (locs : List Loc) (ls : Array Slot), gHw X τ G H locs → lv_has ls 5 [(0, .ref x0), (1, .int x1), (2, .int y2)] → K (.inl (y2, G)) → W p l e rm_X10_markMeetable s m args below meth c H locs 0 0 Q (F0 m 30 ls [])) (hx0 : ∀ (G : gG) (H : Heap) (locs : List Loc) (ls : Array Slot), gHw X τ G H locs → lv_has ls 5 [] → K (.inr G) → W p l e rm_X10_markMeetable s m args below meth c H locs 0 0 Q (F0 m 104 ls [])) : W p l e rm_X10_markMeetable s m args below meth c H locs 0 0 Q (F0 m 30 ls []) := by
  unfold b_X10_markMeetable_30 at hok
  refine lv_iload_n fx.1 fx.2.1 dX10_markMeetable_30 rfl (lv_at hl 2 rfl) ?_
  refine lv_aload_n fx.1 fx.2.1 dX10_markMeetable_31 rfl (lv_at hl 0 rfl) ?_
  refine g_getr fx hw h0 lf_RX10_70 rfl dX10_markMeetable_32 hok (fun a5 h_a5 hok => ?_)
  refine g_geti fx hw h_a5 lf_RX10_286 rfl dX10_markMeetable_35 ?_
  refine g_icmp_ge (tgt := 104) fx dX10_markMeetable_38 (by decide) hok (fun hok => ?_) (fun hok => ?_)
  · exact hx0  G _ _ _  hw (lv_sub hl [] rfl) (gOk_some hok)
  · refine lv_aload_n fx.1 fx.2.1 dX10_markMeetable_41 rfl (lv_at hl 0 rfl) ?_
    refine lv_aload_n fx.1 fx.2.1 dX10_markMeetable_42 rfl (lv_at hl 0 rfl) ?_
    refine g_getr fx hw h0 lf_RX10_70 rfl dX10_markMeetable_43 hok (fun a6 h_a6 hok => ?_)
    refine g_getr fx hw h_a6 lf_RX10_325 rfl dX10_markMeetable_46 hok (fun a7 h_a7 hok => ?_)
    refine lv_iload_n fx.1 fx.2.1 dX10_markMeetable_49 rfl (lv_at hl 2 rfl) ?_
    refine g_aald fx hw 15 3 h_a7 (by decide) (by decide) rfl (κ' := 5) rfl dX10_markMeetable_50 hok (fun a8 h_a8 hok => ?_)
    obtain ⟨v9, G10, hf, hok⟩ := gOk_bind2 hok
    refine g_callV0 (κ := 10) fx hw (c_X10_ordersMetBy l X τ n x0 a8 G h0 h_a8 hf) lv_RX10_329 ⟨rfl, rfl⟩ rfl rfl h0 rfl hl.1 rfl ⟨Nat.le_of_ble_eq_true rfl, Nat.le_of_ble_eq_true rfl⟩ (Nat.le_of_ble_eq_true rfl) ⟨Nat.le_of_ble_eq_true rfl, Nat.le_of_ble_eq_true rfl⟩ dX10_markMeetable_51 (fun H locs hw => ?_)
    refine lv_istore_n (lv' := [(3, .int v9), (0, .ref x0), (1, .int x1), (2, .int x2)]) fx.1 fx.2.1 dX10_markMeetable_54 rfl hl (by decide) rfl (fun ls hl => ?_)
    refine lv_iload_n fx.1 fx.2.1 dX10_markMeetable_55 rfl (lv_at hl 2 rfl) ?_
    refine lv_iconst (v := 1) fx.1 fx.2.1 dX10_markMeetable_56 (by decide) ?_
    refine lv_isub fx.1 fx.2.1 dX10_markMeetable_57 ?_
    refine g_leti hok (fun v11 hok => ?_)
    refine lv_istore (lv' := [(4, .int v11), (3, .int v9), (0, .ref x0), (1, .int x1), (2, .int x2)]) fx.1 fx.2.1 dX10_markMeetable_58 hl (by decide) rfl (fun ls hl => ?_)
    refine w_l_X10_markMeetable_60 fx n x0 x1 x2 v9 h0 ?_ n v11 G10 _ _ _  hw (lv_sub hl [2, 3, 4, 1, 0] rfl) (gOk_bindK hok)
    intro G16 H locs ls hw hl hok
    have hok : gOk (ρ := (Int32 × gG) ⊕ ((gG))) (gLet (x2 + 1) fun v17 =>   some (.inl (v17, G16))) _ := hok
    obtain ⟨v17, e_v17, hok⟩ := gOk_let hok
    refine lv_iinc (v := v17) (lv' := [(2, .int v17), (0, .ref x0), (1, .int x1)]) fx.1 fx.2.1 dX10_markMeetable_98 hl (k := 2) rfl (by rw [e_v17]; rfl) (by decide) rfl (fun ls hl => ?_)
    refine lv_goto (tgt := 30) fx.1 fx.2.1 dX10_markMeetable_101 (by decide) ?_
    exact hc v17 G16 _ _ _  hw (lv_sub hl [1, 2, 0] rfl) (gOk_some hok)
theorem w_l_X10_markMeetable_30 {X : gX} {τ : gτ} {p : Program} {l : Launch} {e : Env} {s : State} {m : MethodId} {args : Array Value} {below : List Frame} {meth : Method} {c : Code} (fx : gFx X p s m args meth c cX10_markMeetable 5 RX10) (n : Nat) (x0 : Nat) (x1 : Int32) (h0 : gK τ x0 10) {Q : State → Prop} {K : ((gG)) → Prop} (hx0 : ∀ (G : gG) (H : Heap) (locs : List Loc) (ls : Array Slot), gHw X τ G H locs → lv_has ls 5 [] → K G → W p l e rm_X10_markMeetable s m args below meth c H locs 0 0 Q (F0 m 104 ls [])) : ∀ (k : Nat) (x2 : Int32) (G : gG) (H : Heap) (locs : List Loc) (ls : Array Slot), gHw X τ G H locs → lv_has ls 5 [(0, .ref x0), (1, .int x1), (2, .int x2)] → gOk (gIter (fun (q : Int32 × gG) => b_X10_markMeetable_30 τ n x0 x1 q.1 q.2) k (x2, G)) K → W p l e rm_X10_markMeetable s m args below meth c H locs 0 0 Q (F0 m 30 ls []) := by
  intro k
  induction k with
  | zero =>
    intro x2 G H locs ls hw hl hok
    exact gOk_iter0 hok
  | succ k hc =>
    intro x2 G H locs ls hw hl hok
    exact w_b_X10_markMeetable_30 fx n x0 x1 x2 h0 hw hl (gOk_iter hok) hc hx0
set_option maxHeartbeats 4000000 in
set_option maxRecDepth 100000 in
theorem w_X10_markMeetable_28 {X : gX} {τ : gτ} {p : Program} {l : Launch} {e : Env} {s : State} {m : MethodId} {args : Array Value} {below : List Frame} {meth : Method} {c : Code} (fx : gFx X p s m args meth c cX10_markMeetable 5 RX10) (n : Nat) (x0 : Nat) (x1 : Int32)  (h0 : gK τ x0 10)  (hr : meth.sig.returnType = none) {G' : gG} {G : gG} {H : Heap} {locs : List Loc} {ls : Array Slot} (hw : gHw X τ G H locs) (hl : lv_has ls 5 [(0, .ref x0), (1, .int x1)]) (hok : gOk (k_X10_markMeetable_28 τ n x0 x1  G) (fun q => q = G'))  : W p l e rm_X10_markMeetable s m args below meth c H locs 0 0 (MQ below (gQ X τ none G') args s 0 0 (gFree X)) (F0 m 28 ls []) := by
  unfold k_X10_markMeetable_28 at hok
  refine lv_iconst (v := 0) fx.1 fx.2.1 dX10_markMeetable_28 (by decide) ?_
  refine lv_istore_n (lv' := [(2, .int (0 : Int32)), (0, .ref x0), (1, .int x1)]) fx.1 fx.2.1 dX10_markMeetable_29 rfl hl (by decide) rfl (fun ls hl => ?_)
  refine w_l_X10_markMeetable_30 fx n x0 x1 h0 ?_ n (0 : Int32) G _ _ _  hw (lv_sub hl [1, 2, 0] rfl) (gOk_bindK hok)
  intro G18 H locs ls hw hl hok
  have hok : gOk (ρ := gG) (some G18) _ := hok
  cases gOk_some hok
  exact g_vret fx hw hr dX10_markMeetable_104
set_option maxHeartbeats 4000000 in
set_option maxRecDepth 100000 in
theorem c_X10_markMeetable (l : Launch) (X : gX) (τ : gτ) (n : Nat) (x0 : Nat) (x1 : Int32) (G : gG) (h0 : gK τ x0 10) {G' : gG} (h : f_X10_markMeetable τ n x0 x1 G = some G') : gM l X τ yX10_markMeetable cX10_markMeetable 5 none rm_X10_markMeetable [.ref x0, .int x1] G none G' := by
  refine g_body (by decide +kernel) (Nat.le_of_ble_eq_true rfl) ?_
  intro p e s m args below meth c ls fx hr hw hl
  have fx : gFx X p s m args meth c cX10_markMeetable 5 RX10 := fx
  have hl : lv_has ls 5 [(0, .ref x0), (1, .int x1)] := hl
  have hok : gOk (f_X10_markMeetable τ n x0 x1 G) (fun q => q = G') := ⟨_, h, rfl⟩
  unfold f_X10_markMeetable at hok
  show W p l e rm_X10_markMeetable s m args below meth c s.heap [] 0 0 (MQ below (gQ X τ none G') args s 0 0 (gFree X)) _
  refine lv_iconst (v := 0) fx.1 fx.2.1 dX10_markMeetable_0 (by decide) ?_
  refine lv_istore_n (lv' := [(2, .int (0 : Int32)), (0, .ref x0), (1, .int x1)]) fx.1 fx.2.1 dX10_markMeetable_1 rfl hl (by decide) rfl (fun ls hl => ?_)
  refine w_l_X10_markMeetable_2 fx n x0 x1 h0 ?_ n (0 : Int32) G _ _ _  hw (lv_sub hl [1, 2, 0] rfl) (gOk_bindK hok)
  intro G4 H locs ls hw hl hok
  have hok : gOk (ρ := gG) (k_X10_markMeetable_28 τ n x0 x1  G4) _ := hok
  exact w_X10_markMeetable_28 fx n x0 x1  h0  hr hw (lv_sub hl [0, 1] rfl) hok
theorem dX10_most_0 : decode cX10_most 0 = .ok (.iconst 1, 1) := by decide +kernel
theorem dX10_most_1 : decode cX10_most 1 = .ok (.aload_n 0, 1) := by decide +kernel
theorem dX10_most_2 : decode cX10_most 2 = .ok (.getfield 70, 3) := by decide +kernel
theorem dX10_most_5 : decode cX10_most 5 = .ok (.getfield 332, 3) := by decide +kernel
theorem dX10_most_8 : decode cX10_most 8 = .ok (.ishl, 1) := by decide +kernel
theorem dX10_most_9 : decode cX10_most 9 = .ok (.istore_n 2, 1) := by decide +kernel
theorem dX10_most_10 : decode cX10_most 10 = .ok (.aload_n 0, 1) := by decide +kernel
theorem dX10_most_11 : decode cX10_most 11 = .ok (.iload_n 2, 1) := by decide +kernel
theorem dX10_most_12 : decode cX10_most 12 = .ok (.invokevirtual 339, 3) := by decide +kernel
theorem dX10_most_15 : decode cX10_most 15 = .ok (.iconst 0, 1) := by decide +kernel
theorem dX10_most_16 : decode cX10_most 16 = .ok (.istore_n 3, 1) := by decide +kernel
theorem dX10_most_17 : decode cX10_most 17 = .ok (.iconst 0, 1) := by decide +kernel
theorem dX10_most_18 : decode cX10_most 18 = .ok (.istore 4, 2) := by decide +kernel
theorem dX10_most_20 : decode cX10_most 20 = .ok (.iconst 0, 1) := by decide +kernel
theorem dX10_most_21 : decode cX10_most 21 = .ok (.istore 5, 2) := by decide +kernel
theorem dX10_most_23 : decode cX10_most 23 = .ok (.iload 5, 2) := by decide +kernel
theorem dX10_most_25 : decode cX10_most 25 = .ok (.iload_n 2, 1) := by decide +kernel
theorem dX10_most_26 : decode cX10_most 26 = .ok (.if_icmp .ge 51, 3) := by decide +kernel
theorem dX10_most_29 : decode cX10_most 29 = .ok (.aload_n 0, 1) := by decide +kernel
theorem dX10_most_30 : decode cX10_most 30 = .ok (.getfield 60, 3) := by decide +kernel
theorem dX10_most_33 : decode cX10_most 33 = .ok (.iload 5, 2) := by decide +kernel
theorem dX10_most_35 : decode cX10_most 35 = .ok (.iaload, 1) := by decide +kernel
theorem dX10_most_36 : decode cX10_most 36 = .ok (.iconst 1, 1) := by decide +kernel
theorem dX10_most_37 : decode cX10_most 37 = .ok (.if_icmp .ne 34, 3) := by decide +kernel
theorem dX10_most_40 : decode cX10_most 40 = .ok (.iload 4, 2) := by decide +kernel
theorem dX10_most_42 : decode cX10_most 42 = .ok (.aload_n 0, 1) := by decide +kernel
theorem dX10_most_43 : decode cX10_most 43 = .ok (.getfield 70, 3) := by decide +kernel
theorem dX10_most_46 : decode cX10_most 46 = .ok (.iload 5, 2) := by decide +kernel
theorem dX10_most_48 : decode cX10_most 48 = .ok (.invokevirtual 342, 3) := by decide +kernel
theorem dX10_most_51 : decode cX10_most 51 = .ok (.invokestatic 345, 3) := by decide +kernel
theorem dX10_most_54 : decode cX10_most 54 = .ok (.istore 4, 2) := by decide +kernel
theorem dX10_most_56 : decode cX10_most 56 = .ok (.iload 5, 2) := by decide +kernel
theorem dX10_most_58 : decode cX10_most 58 = .ok (.invokestatic 350, 3) := by decide +kernel
theorem dX10_most_61 : decode cX10_most 61 = .ok (.iload_n 3, 1) := by decide +kernel
theorem dX10_most_62 : decode cX10_most 62 = .ok (.invokestatic 350, 3) := by decide +kernel
theorem dX10_most_65 : decode cX10_most 65 = .ok (.if_icmp .le 6, 3) := by decide +kernel
theorem dX10_most_68 : decode cX10_most 68 = .ok (.iload 5, 2) := by decide +kernel
theorem dX10_most_70 : decode cX10_most 70 = .ok (.istore_n 3, 1) := by decide +kernel
theorem dX10_most_71 : decode cX10_most 71 = .ok (.iinc 5 1, 3) := by decide +kernel
theorem dX10_most_74 : decode cX10_most 74 = .ok (.goto (-51), 3) := by decide +kernel
theorem dX10_most_77 : decode cX10_most 77 = .ok (.iload_n 1, 1) := by decide +kernel
theorem dX10_most_78 : decode cX10_most 78 = .ok (.ifCond .eq 8, 3) := by decide +kernel
theorem dX10_most_81 : decode cX10_most 81 = .ok (.iload 4, 2) := by decide +kernel
theorem dX10_most_83 : decode cX10_most 83 = .ok (.goto 4, 3) := by decide +kernel
theorem dX10_most_86 : decode cX10_most 86 = .ok (.iload_n 3, 1) := by decide +kernel
theorem dX10_most_87 : decode cX10_most 87 = .ok (.ireturn, 1) := by decide +kernel
theorem lv_RX10_339 : gLv RX10 339 RX10 yX10_markMeetable cX10_markMeetable 5 none 1 := gLv_of (wA_t (wt3 (List.mem_of_getElem? (i := 41) (by decide +kernel))) (by decide +kernel)) (wA_t (wt3 (List.mem_of_getElem? (i := 43) (by decide +kernel))) (by decide +kernel)) (wA_of (List.mem_append_left _ (List.mem_map.mpr ⟨(⟨"YearRope", "markMeetable", "(I)V"⟩, 15), wp1 (List.mem_of_getElem? (i := 5) (by decide +kernel)), rfl⟩)) (by decide +kernel)) (wA_t (wt1 (List.mem_of_getElem? (i := 1) (by decide +kernel))) (by decide +kernel)) (wA_t (wt3 (List.mem_of_getElem? (i := 44) (by decide +kernel))) (by decide +kernel)) ⟨rfl, by decide +kernel, by decide +kernel, by decide +kernel⟩
theorem lv_RX10_342 : gLv RX10 342 RX6 yX6_payOf cX6_payOf 4 (some .int) 1 := gLv_of (wA_t (wt3 (List.mem_of_getElem? (i := 49) (by decide +kernel))) (by decide +kernel)) (wA_t (wt3 (List.mem_of_getElem? (i := 50) (by decide +kernel))) (by decide +kernel)) (wA_t (wt3 (List.mem_of_getElem? (i := 51) (by decide +kernel))) (by decide +kernel)) (wA_t (wt1 (List.mem_of_getElem? (i := 6) (by decide +kernel))) (by decide +kernel)) (wA_t (wt3 (List.mem_of_getElem? (i := 52) (by decide +kernel))) (by decide +kernel)) ⟨rfl, by decide +kernel, by decide +kernel, by decide +kernel⟩
theorem ls_RX10_350 : gLs RX10 350 yJ6_bitCount_0f7a4 cJ6_bitCount_0f7a4 1 (some .int) 1 := gLs_of (wA_t (wt3 (List.mem_of_getElem? (i := 54) (by decide +kernel))) (by decide +kernel)) (wA_t (wt2 (List.mem_of_getElem? (i := 223) (by decide +kernel))) (by decide +kernel)) (wA_t (wt1 (List.mem_of_getElem? (i := 26) (by decide +kernel))) (by decide +kernel)) (wA_t (wt2 (List.mem_of_getElem? (i := 224) (by decide +kernel))) (by decide +kernel)) ⟨by decide +kernel, by decide +kernel, by decide +kernel⟩
def rm_X10_most : Room := { frames := 6, cells := 0, slots := 0, locals := 145 }
def b_X10_most_23 (τ : gτ) (n : Nat) (x0 : Nat) (x1 : Int32) (x2 : Int32) (x3 : Int32) (x4 : Int32) (x5 : Int32) (G : gG) : Option ((Int32 × Int32 × Int32) ⊕ ((Int32 × Int32))) :=
  if x2 ≤ x5 then (some (.inr (x3, x4)))
  else ((gr G 10 7 x0).bind fun a4 =>
  gchk (gIn x5 (gn τ a4)) <|
  if (ge G a4 (Int32.toNatClampNeg x5)) = (1 : Int32) then ((gr G 10 10 x0).bind fun a5 =>
  (f_X6_payOf τ n a5 x5 G).bind fun v6 =>
  gLet (gmax x4 v6) fun v7 =>
  (f_J6_bitCount_0f7a4 x5).bind fun v8 =>
  (f_J6_bitCount_0f7a4 x3).bind fun v9 =>
  if v8 ≤ v9 then (gLet (x5 + 1) fun v10 =>
  some (.inl (x3, v7, v10)))
  else (gLet (x5 + 1) fun v11 =>
  some (.inl (x5, v7, v11))))
  else (gLet (x5 + 1) fun v12 =>
  some (.inl (x3, x4, v12))))
def l_X10_most_23 (τ : gτ) (n : Nat) (x0 : Nat) (x1 : Int32) (x2 : Int32) (x3 : Int32) (x4 : Int32) (x5 : Int32) (G : gG) : Option ((Int32 × Int32)) :=
  gIter (fun (q : Int32 × Int32 × Int32) => b_X10_most_23 τ n x0 x1 x2 q.1 q.2.1 q.2.2 G) n (x3, x4, x5)
def k_X10_most_77 (τ : gτ) (n : Nat) (x1 : Int32) (x3 : Int32) (x4 : Int32)  (G : gG) : Option (Int32 × gG) :=
  if x1 = 0 then (some (x3, G))
  else (some (x4, G))
def f_X10_most (τ : gτ) (n : Nat) (x0 : Nat) (x1 : Int32) (G : gG) : Option (Int32 × gG) :=
  (gr G 10 10 x0).bind fun a1 =>
  gLet ((1 : Int32) <<< ((gi G 6 6 a1) &&& 31)) fun v2 =>
  (f_X10_markMeetable τ n x0 v2 G).bind fun G3 =>
  (l_X10_most_23 τ n x0 x1 v2 (0 : Int32) (0 : Int32) (0 : Int32) G3).bind fun q => gLet q.1 fun z13 => gLet q.2 fun z14 => 
  k_X10_most_77 τ n x1 z13 z14  G3
set_option maxHeartbeats 4000000 in
set_option maxRecDepth 100000 in
theorem w_b_X10_most_23 {X : gX} {τ : gτ} {p : Program} {l : Launch} {e : Env} {s : State} {m : MethodId} {args : Array Value} {below : List Frame} {meth : Method} {c : Code} (fx : gFx X p s m args meth c cX10_most 6 RX10) (n : Nat) (x0 : Nat) (x1 : Int32) (x2 : Int32) (x3 : Int32) (x4 : Int32) (x5 : Int32) (h0 : gK τ x0 10) {Q : State → Prop} {K : ((Int32 × Int32 × Int32) ⊕ ((Int32 × Int32))) → Prop} {G : gG} {H : Heap} {locs : List Loc} {ls : Array Slot} (hw : gHw X τ G H locs) (hl : lv_has ls 6 [(0, .ref x0), (1, .int x1), (2, .int x2), (3, .int x3), (4, .int x4), (5, .int x5)]) (hok : gOk (b_X10_most_23 τ n x0 x1 x2 x3 x4 x5 G) K) (hc : ∀ (y3 : Int32) (y4 : Int32) (y5 : Int32) (H : Heap) (locs : List Loc) (ls : Array Slot), gHw X τ G H locs → lv_has ls 6 [(0, .ref x0), (1, .int x1), (2, .int x2), (3, .int y3), (4, .int y4), (5, .int y5)] → K (.inl (y3, y4, y5)) → W p l e rm_X10_most s m args below meth c H locs 0 0 Q (F0 m 23 ls [])) (hx0 : ∀ (y3 : Int32) (y4 : Int32) (H : Heap) (locs : List Loc) (ls : Array Slot), gHw X τ G H locs → lv_has ls 6 [(1, .int x1), (3, .int y3), (4, .int y4)] → K (.inr (y3, y4)) → W p l e rm_X10_most s m args below meth c H locs 0 0 Q (F0 m 77 ls [])) : W p l e rm_X10_most s m args below meth c H locs 0 0 Q (F0 m 23 ls []) := by
  unfold b_X10_most_23 at hok
  refine lv_iload fx.1 fx.2.1 dX10_most_23 (lv_at hl 5 rfl) ?_
  refine lv_iload_n fx.1 fx.2.1 dX10_most_25 rfl (lv_at hl 2 rfl) ?_
  refine g_icmp_ge (tgt := 77) fx dX10_most_26 (by decide) hok (fun hok => ?_) (fun hok => ?_)
  · exact hx0 x3 x4  _ _ _  hw (lv_sub hl [1, 3, 4] rfl) (gOk_some hok)
  · refine lv_aload_n fx.1 fx.2.1 dX10_most_29 rfl (lv_at hl 0 rfl) ?_
    refine g_getr fx hw h0 lf_RX10_60 rfl dX10_most_30 hok (fun a4 h_a4 hok => ?_)
    refine lv_iload fx.1 fx.2.1 dX10_most_33 (lv_at hl 5 rfl) ?_
    refine g_iald fx hw h_a4 dX10_most_35 hok (fun hok => ?_)
    refine lv_iconst (v := 1) fx.1 fx.2.1 dX10_most_36 (by decide) ?_
    refine g_icmp_ne (tgt := 71) fx dX10_most_37 (by decide) hok (fun hok => ?_) (fun hok => ?_)
    · refine lv_iload fx.1 fx.2.1 dX10_most_40 (lv_at hl 4 rfl) ?_
      refine lv_aload_n fx.1 fx.2.1 dX10_most_42 rfl (lv_at hl 0 rfl) ?_
      refine g_getr fx hw h0 lf_RX10_70 rfl dX10_most_43 hok (fun a5 h_a5 hok => ?_)
      refine lv_iload fx.1 fx.2.1 dX10_most_46 (lv_at hl 5 rfl) ?_
      obtain ⟨v6, hf, hok⟩ := gOk_bind hok
      refine g_callV0 (κ := 6) fx hw (c_X6_payOf l X τ n a5 x5 G h_a5 hf) lv_RX10_342 ⟨rfl, rfl⟩ rfl rfl h_a5 rfl hl.1 rfl ⟨Nat.le_of_ble_eq_true rfl, Nat.le_of_ble_eq_true rfl⟩ (Nat.le_of_ble_eq_true rfl) ⟨Nat.le_of_ble_eq_true rfl, Nat.le_of_ble_eq_true rfl⟩ dX10_most_48 (fun H locs hw => ?_)
      refine g_mmax fx hl.1 lm_RX10_345 lmst_max lm_init lmco_max ⟨Nat.le_of_ble_eq_true rfl, Nat.le_of_ble_eq_true rfl, Nat.le_of_ble_eq_true rfl, Nat.le_of_ble_eq_true rfl⟩ dX10_most_51 ?_
      refine g_leti hok (fun v7 hok => ?_)
      refine lv_istore (lv' := [(4, .int v7), (0, .ref x0), (1, .int x1), (2, .int x2), (3, .int x3), (5, .int x5)]) fx.1 fx.2.1 dX10_most_54 hl (by decide) rfl (fun ls hl => ?_)
      refine lv_iload fx.1 fx.2.1 dX10_most_56 (lv_at hl 5 rfl) ?_
      obtain ⟨v8, hf, hok⟩ := gOk_bind hok
      refine g_callS0 fx hw (c_J6_bitCount_0f7a4 l X τ x5 G  hf) ls_RX10_350 ⟨rfl, rfl⟩ rfl hl.1 rfl ⟨Nat.le_of_ble_eq_true rfl, Nat.le_of_ble_eq_true rfl⟩ (Nat.le_of_ble_eq_true rfl) ⟨Nat.le_of_ble_eq_true rfl, Nat.le_of_ble_eq_true rfl⟩ dX10_most_58 (fun H locs hw => ?_)
      refine lv_iload_n fx.1 fx.2.1 dX10_most_61 rfl (lv_at hl 4 rfl) ?_
      obtain ⟨v9, hf, hok⟩ := gOk_bind hok
      refine g_callS0 fx hw (c_J6_bitCount_0f7a4 l X τ x3 G  hf) ls_RX10_350 ⟨rfl, rfl⟩ rfl hl.1 rfl ⟨Nat.le_of_ble_eq_true rfl, Nat.le_of_ble_eq_true rfl⟩ (Nat.le_of_ble_eq_true rfl) ⟨Nat.le_of_ble_eq_true rfl, Nat.le_of_ble_eq_true rfl⟩ dX10_most_62 (fun H locs hw => ?_)
      refine g_icmp_le (tgt := 71) fx dX10_most_65 (by decide) hok (fun hok => ?_) (fun hok => ?_)
      · obtain ⟨v10, e_v10, hok⟩ := gOk_let hok
        refine lv_iinc (v := v10) (lv' := [(5, .int v10), (4, .int v7), (0, .ref x0), (1, .int x1), (2, .int x2), (3, .int x3)]) fx.1 fx.2.1 dX10_most_71 hl (k := 5) rfl (by rw [e_v10]; rfl) (by decide) rfl (fun ls hl => ?_)
        refine lv_goto (tgt := 23) fx.1 fx.2.1 dX10_most_74 (by decide) ?_
        exact hc x3 v7 v10  _ _ _  hw (lv_sub hl [2, 3, 4, 5, 1, 0] rfl) (gOk_some hok)
      · refine lv_iload fx.1 fx.2.1 dX10_most_68 (lv_at hl 5 rfl) ?_
        refine lv_istore_n (lv' := [(3, .int x5), (4, .int v7), (0, .ref x0), (1, .int x1), (2, .int x2), (5, .int x5)]) fx.1 fx.2.1 dX10_most_70 rfl hl (by decide) rfl (fun ls hl => ?_)
        obtain ⟨v11, e_v11, hok⟩ := gOk_let hok
        refine lv_iinc (v := v11) (lv' := [(5, .int v11), (3, .int x5), (4, .int v7), (0, .ref x0), (1, .int x1), (2, .int x2)]) fx.1 fx.2.1 dX10_most_71 hl (k := 5) rfl (by rw [e_v11]; rfl) (by decide) rfl (fun ls hl => ?_)
        refine lv_goto (tgt := 23) fx.1 fx.2.1 dX10_most_74 (by decide) ?_
        exact hc x5 v7 v11  _ _ _  hw (lv_sub hl [3, 4, 5, 1, 2, 0] rfl) (gOk_some hok)
    · obtain ⟨v12, e_v12, hok⟩ := gOk_let hok
      refine lv_iinc (v := v12) (lv' := [(5, .int v12), (0, .ref x0), (1, .int x1), (2, .int x2), (3, .int x3), (4, .int x4)]) fx.1 fx.2.1 dX10_most_71 hl (k := 5) rfl (by rw [e_v12]; rfl) (by decide) rfl (fun ls hl => ?_)
      refine lv_goto (tgt := 23) fx.1 fx.2.1 dX10_most_74 (by decide) ?_
      exact hc x3 x4 v12  _ _ _  hw (lv_sub hl [1, 2, 3, 4, 5, 0] rfl) (gOk_some hok)
theorem w_l_X10_most_23 {X : gX} {τ : gτ} {p : Program} {l : Launch} {e : Env} {s : State} {m : MethodId} {args : Array Value} {below : List Frame} {meth : Method} {c : Code} (fx : gFx X p s m args meth c cX10_most 6 RX10) (n : Nat) (x0 : Nat) (x1 : Int32) (x2 : Int32) (h0 : gK τ x0 10) (G : gG) {Q : State → Prop} {K : ((Int32 × Int32)) → Prop} (hx0 : ∀ (y3 : Int32) (y4 : Int32) (H : Heap) (locs : List Loc) (ls : Array Slot), gHw X τ G H locs → lv_has ls 6 [(1, .int x1), (3, .int y3), (4, .int y4)] → K (y3, y4) → W p l e rm_X10_most s m args below meth c H locs 0 0 Q (F0 m 77 ls [])) : ∀ (k : Nat) (x3 : Int32) (x4 : Int32) (x5 : Int32) (H : Heap) (locs : List Loc) (ls : Array Slot), gHw X τ G H locs → lv_has ls 6 [(0, .ref x0), (1, .int x1), (2, .int x2), (3, .int x3), (4, .int x4), (5, .int x5)] → gOk (gIter (fun (q : Int32 × Int32 × Int32) => b_X10_most_23 τ n x0 x1 x2 q.1 q.2.1 q.2.2 G) k (x3, x4, x5)) K → W p l e rm_X10_most s m args below meth c H locs 0 0 Q (F0 m 23 ls []) := by
  intro k
  induction k with
  | zero =>
    intro x3 x4 x5  H locs ls hw hl hok
    exact gOk_iter0 hok
  | succ k hc =>
    intro x3 x4 x5  H locs ls hw hl hok
    exact w_b_X10_most_23 fx n x0 x1 x2 x3 x4 x5 h0 hw hl (gOk_iter hok) hc hx0
set_option maxHeartbeats 4000000 in
set_option maxRecDepth 100000 in
theorem w_X10_most_77 {X : gX} {τ : gτ} {p : Program} {l : Launch} {e : Env} {s : State} {m : MethodId} {args : Array Value} {below : List Frame} {meth : Method} {c : Code} (fx : gFx X p s m args meth c cX10_most 6 RX10) (n : Nat) (x1 : Int32) (x3 : Int32) (x4 : Int32)    (hr : meth.sig.returnType = (some .int)) {r : Int32} {G' : gG} {G : gG} {H : Heap} {locs : List Loc} {ls : Array Slot} (hw : gHw X τ G H locs) (hl : lv_has ls 6 [(1, .int x1), (3, .int x3), (4, .int x4)]) (hok : gOk (k_X10_most_77 τ n x1 x3 x4  G) (fun q => q = (r, G')))  : W p l e rm_X10_most s m args below meth c H locs 0 0 (MQ below (gQ X τ (some (.int r)) G') args s 0 0 (gFree X)) (F0 m 77 ls []) := by
  unfold k_X10_most_77 at hok
  refine lv_iload_n fx.1 fx.2.1 dX10_most_77 rfl (lv_at hl 0 rfl) ?_
  refine g_if_eq (tgt := 86) fx dX10_most_78 (by decide) hok (fun hok => ?_) (fun hok => ?_)
  · refine lv_iload_n fx.1 fx.2.1 dX10_most_86 rfl (lv_at hl 1 rfl) ?_
    cases gOk_some hok
    exact g_iret fx hw hr dX10_most_87
  · refine lv_iload fx.1 fx.2.1 dX10_most_81 (lv_at hl 2 rfl) ?_
    refine lv_goto (tgt := 87) fx.1 fx.2.1 dX10_most_83 (by decide) ?_
    cases gOk_some hok
    exact g_iret fx hw hr dX10_most_87
set_option maxHeartbeats 4000000 in
set_option maxRecDepth 100000 in
theorem c_X10_most (l : Launch) (X : gX) (τ : gτ) (n : Nat) (x0 : Nat) (x1 : Int32) (G : gG) (h0 : gK τ x0 10) {r : Int32} {G' : gG} (h : f_X10_most τ n x0 x1 G = some (r, G')) : gM l X τ yX10_most cX10_most 6 (some .int) rm_X10_most [.ref x0, .int x1] G (some (.int r)) G' := by
  refine g_body (by decide +kernel) (Nat.le_of_ble_eq_true rfl) ?_
  intro p e s m args below meth c ls fx hr hw hl
  have fx : gFx X p s m args meth c cX10_most 6 RX10 := fx
  have hl : lv_has ls 6 [(0, .ref x0), (1, .int x1)] := hl
  have hok : gOk (f_X10_most τ n x0 x1 G) (fun q => q = (r, G')) := ⟨_, h, rfl⟩
  unfold f_X10_most at hok
  show W p l e rm_X10_most s m args below meth c s.heap [] 0 0 (MQ below (gQ X τ (some (.int r)) G') args s 0 0 (gFree X)) _
  refine lv_iconst (v := 1) fx.1 fx.2.1 dX10_most_0 (by decide) ?_
  refine lv_aload_n fx.1 fx.2.1 dX10_most_1 rfl (lv_at hl 0 rfl) ?_
  refine g_getr fx hw h0 lf_RX10_70 rfl dX10_most_2 hok (fun a1 h_a1 hok => ?_)
  refine g_geti fx hw h_a1 lf_RX10_332 rfl dX10_most_5 ?_
  refine lv_ishl fx.1 fx.2.1 dX10_most_8 ?_
  refine g_leti hok (fun v2 hok => ?_)
  refine lv_istore_n (lv' := [(2, .int v2), (0, .ref x0), (1, .int x1)]) fx.1 fx.2.1 dX10_most_9 rfl hl (by decide) rfl (fun ls hl => ?_)
  refine lv_aload_n fx.1 fx.2.1 dX10_most_10 rfl (lv_at hl 1 rfl) ?_
  refine lv_iload_n fx.1 fx.2.1 dX10_most_11 rfl (lv_at hl 0 rfl) ?_
  obtain ⟨G3, hf, hok⟩ := gOk_bind hok
  refine g_callV0 (κ := 10) fx hw (c_X10_markMeetable l X τ n x0 v2 G h0 hf) lv_RX10_339 ⟨rfl, rfl⟩ rfl rfl h0 rfl hl.1 rfl ⟨Nat.le_of_ble_eq_true rfl, Nat.le_of_ble_eq_true rfl⟩ (Nat.le_of_ble_eq_true rfl) ⟨Nat.le_of_ble_eq_true rfl, Nat.le_of_ble_eq_true rfl⟩ dX10_most_12 (fun H locs hw => ?_)
  refine lv_iconst (v := 0) fx.1 fx.2.1 dX10_most_15 (by decide) ?_
  refine lv_istore_n (lv' := [(3, .int (0 : Int32)), (2, .int v2), (0, .ref x0), (1, .int x1)]) fx.1 fx.2.1 dX10_most_16 rfl hl (by decide) rfl (fun ls hl => ?_)
  refine lv_iconst (v := 0) fx.1 fx.2.1 dX10_most_17 (by decide) ?_
  refine lv_istore (lv' := [(4, .int (0 : Int32)), (3, .int (0 : Int32)), (2, .int v2), (0, .ref x0), (1, .int x1)]) fx.1 fx.2.1 dX10_most_18 hl (by decide) rfl (fun ls hl => ?_)
  refine lv_iconst (v := 0) fx.1 fx.2.1 dX10_most_20 (by decide) ?_
  refine lv_istore (lv' := [(5, .int (0 : Int32)), (4, .int (0 : Int32)), (3, .int (0 : Int32)), (2, .int v2), (0, .ref x0), (1, .int x1)]) fx.1 fx.2.1 dX10_most_21 hl (by decide) rfl (fun ls hl => ?_)
  refine w_l_X10_most_23 fx n x0 x1 v2 h0 G3 ?_ n (0 : Int32) (0 : Int32) (0 : Int32)  _ _ _  hw (lv_sub hl [4, 5, 3, 2, 1, 0] rfl) (gOk_bindK hok)
  intro z13 z14  H locs ls hw hl hok
  have hok : gOk (ρ := Int32 × gG) (k_X10_most_77 τ n x1 z13 z14  G3) _ := hok
  exact w_X10_most_77 fx n x1 z13 z14    hr hw (lv_sub hl [0, 1, 2] rfl) hok
