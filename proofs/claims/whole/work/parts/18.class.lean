theorem dX10_span_0 : decode cX10_span 0 = .ok (.iload_n 1, 1) := by decide +kernel
theorem dX10_span_1 : decode cX10_span 1 = .ok (.iconst 0, 1) := by decide +kernel
theorem dX10_span_2 : decode cX10_span 2 = .ok (.bipush 40, 2) := by decide +kernel
theorem dX10_span_4 : decode cX10_span 4 = .ok (.invokestatic 224, 3) := by decide +kernel
theorem dX10_span_7 : decode cX10_span 7 = .ok (.bipush 8, 2) := by decide +kernel
theorem dX10_span_9 : decode cX10_span 9 = .ok (.istore_n 3, 1) := by decide +kernel
theorem dX10_span_10 : decode cX10_span 10 = .ok (.iconst 0, 1) := by decide +kernel
theorem dX10_span_11 : decode cX10_span 11 = .ok (.istore 4, 2) := by decide +kernel
theorem dX10_span_13 : decode cX10_span 13 = .ok (.iconst 1, 1) := by decide +kernel
theorem dX10_span_14 : decode cX10_span 14 = .ok (.istore 5, 2) := by decide +kernel
theorem dX10_span_16 : decode cX10_span 16 = .ok (.iload 5, 2) := by decide +kernel
theorem dX10_span_18 : decode cX10_span 18 = .ok (.bipush 6, 2) := by decide +kernel
theorem dX10_span_20 : decode cX10_span 20 = .ok (.if_icmp .gt 69, 3) := by decide +kernel
theorem dX10_span_23 : decode cX10_span 23 = .ok (.aload_n 0, 1) := by decide +kernel
theorem dX10_span_24 : decode cX10_span 24 = .ok (.getfield 73, 3) := by decide +kernel
theorem dX10_span_27 : decode cX10_span 27 = .ok (.aload_n 0, 1) := by decide +kernel
theorem dX10_span_28 : decode cX10_span 28 = .ok (.getfield 70, 3) := by decide +kernel
theorem dX10_span_31 : decode cX10_span 31 = .ok (.invokevirtual 90, 3) := by decide +kernel
theorem dX10_span_34 : decode cX10_span 34 = .ok (.aload_n 0, 1) := by decide +kernel
theorem dX10_span_35 : decode cX10_span 35 = .ok (.getfield 73, 3) := by decide +kernel
theorem dX10_span_38 : decode cX10_span 38 = .ok (.iload 5, 2) := by decide +kernel
theorem dX10_span_40 : decode cX10_span 40 = .ok (.putfield 403, 3) := by decide +kernel
theorem dX10_span_43 : decode cX10_span 43 = .ok (.aload_n 0, 1) := by decide +kernel
theorem dX10_span_44 : decode cX10_span 44 = .ok (.getfield 73, 3) := by decide +kernel
theorem dX10_span_47 : decode cX10_span 47 = .ok (.iload_n 1, 1) := by decide +kernel
theorem dX10_span_48 : decode cX10_span 48 = .ok (.aload_n 0, 1) := by decide +kernel
theorem dX10_span_49 : decode cX10_span 49 = .ok (.getfield 76, 3) := by decide +kernel
theorem dX10_span_52 : decode cX10_span 52 = .ok (.invokevirtual 292, 3) := by decide +kernel
theorem dX10_span_55 : decode cX10_span 55 = .ok (.aload_n 0, 1) := by decide +kernel
theorem dX10_span_56 : decode cX10_span 56 = .ok (.getfield 73, 3) := by decide +kernel
theorem dX10_span_59 : decode cX10_span 59 = .ok (.invokevirtual 391, 3) := by decide +kernel
theorem dX10_span_62 : decode cX10_span 62 = .ok (.invokestatic 350, 3) := by decide +kernel
theorem dX10_span_65 : decode cX10_span 65 = .ok (.istore 6, 2) := by decide +kernel
theorem dX10_span_67 : decode cX10_span 67 = .ok (.iload_n 3, 1) := by decide +kernel
theorem dX10_span_68 : decode cX10_span 68 = .ok (.iload 6, 2) := by decide +kernel
theorem dX10_span_70 : decode cX10_span 70 = .ok (.invokestatic 406, 3) := by decide +kernel
theorem dX10_span_73 : decode cX10_span 73 = .ok (.istore_n 3, 1) := by decide +kernel
theorem dX10_span_74 : decode cX10_span 74 = .ok (.iload 4, 2) := by decide +kernel
theorem dX10_span_76 : decode cX10_span 76 = .ok (.iload 6, 2) := by decide +kernel
theorem dX10_span_78 : decode cX10_span 78 = .ok (.invokestatic 345, 3) := by decide +kernel
theorem dX10_span_81 : decode cX10_span 81 = .ok (.istore 4, 2) := by decide +kernel
theorem dX10_span_83 : decode cX10_span 83 = .ok (.iinc 5 1, 3) := by decide +kernel
theorem dX10_span_86 : decode cX10_span 86 = .ok (.goto (-70), 3) := by decide +kernel
theorem dX10_span_89 : decode cX10_span 89 = .ok (.iload_n 2, 1) := by decide +kernel
theorem dX10_span_90 : decode cX10_span 90 = .ok (.ifCond .eq 8, 3) := by decide +kernel
theorem dX10_span_93 : decode cX10_span 93 = .ok (.iload 4, 2) := by decide +kernel
theorem dX10_span_95 : decode cX10_span 95 = .ok (.goto 4, 3) := by decide +kernel
theorem dX10_span_98 : decode cX10_span 98 = .ok (.iload_n 3, 1) := by decide +kernel
theorem dX10_span_99 : decode cX10_span 99 = .ok (.ireturn, 1) := by decide +kernel
theorem lp_RX10_403 : gLp RX10 403 6 11 := ⟨(RX6, TX6, 15), rfl, by decide, wA_t (wt2 (List.mem_of_getElem? (i := 36) (by decide +kernel))) (by decide +kernel), rfl, rfl⟩
def rm_X10_span : Room := { frames := 7, cells := 1, slots := 6, locals := 167 }
def b_X10_span_16 (τ : gτ) (n : Nat) (x0 : Nat) (x1 : Int32) (x2 : Int32) (x3 : Int32) (x4 : Int32) (x5 : Int32) (G : gG) : Option ((Int32 × Int32 × Int32 × gG) ⊕ ((Int32 × Int32 × gG))) :=
  if (6 : Int32) < x5 then (some (.inr (x3, x4, G)))
  else ((gr G 10 11 x0).bind fun a2 =>
  (gr G 10 10 x0).bind fun a3 =>
  (f_X6_become τ n a2 a3 G).bind fun G4 =>
  (gr G4 10 11 x0).bind fun a5 =>
  gLet (gsi G4 6 11 a5 x5) fun G6 =>
  (gr G6 10 11 x0).bind fun a7 =>
  (gr G6 10 12 x0).bind fun a8 =>
  (f_X6_pass τ n a7 x1 a8 G6).bind fun G9 =>
  (gr G9 10 11 x0).bind fun a10 =>
  (f_X6_brokenRopes τ n a10 G9).bind fun v11 =>
  (f_J6_bitCount_0f7a4 v11).bind fun v12 =>
  gLet (gmin x3 v12) fun v13 =>
  gLet (gmax x4 v12) fun v14 =>
  gLet (x5 + 1) fun v15 =>
  some (.inl (v13, v14, v15, G9)))
def l_X10_span_16 (τ : gτ) (n : Nat) (x0 : Nat) (x1 : Int32) (x2 : Int32) (x3 : Int32) (x4 : Int32) (x5 : Int32) (G : gG) : Option ((Int32 × Int32 × gG)) :=
  gIter (fun (q : Int32 × Int32 × Int32 × gG) => b_X10_span_16 τ n x0 x1 x2 q.1 q.2.1 q.2.2.1 q.2.2.2) n (x3, x4, x5, G)
def k_X10_span_89 (τ : gτ) (n : Nat) (x2 : Int32) (x3 : Int32) (x4 : Int32)  (G : gG) : Option ((String ⊕ Int32) × gG) :=
  if x2 = 0 then (some (.inr x3, G))
  else (some (.inr x4, G))
def f_X10_span (τ : gτ) (n : Nat) (x0 : Nat) (x1 : Int32) (x2 : Int32) (G : gG) : Option ((String ⊕ Int32) × gG) :=
  gBindX (f_X10_needWithin x1 (0 : Int32) (40 : Int32) G) fun _ G1 =>
  (l_X10_span_16 τ n x0 x1 x2 (8 : Int32) (0 : Int32) (1 : Int32) G1).bind fun q => gLet q.1 fun z16 => gLet q.2.1 fun z17 => gLet q.2.2 fun G18 => 
  k_X10_span_89 τ n x2 z16 z17  G18
set_option maxHeartbeats 4000000 in
set_option maxRecDepth 100000 in
theorem w_b_X10_span_16 {X : gX} {τ : gτ} {p : Program} {l : Launch} {e : Env} {s : State} {m : MethodId} {args : Array Value} {below : List Frame} {meth : Method} {c : Code} (fx : gFx X p s m args meth c cX10_span 7 RX10) (hS : gS0 l X) (hxt : ∀ x ∈ c.exceptionTable.toList, False) (n : Nat) (x0 : Nat) (x1 : Int32) (x2 : Int32) (x3 : Int32) (x4 : Int32) (x5 : Int32) (h0 : gK τ x0 10) {Q : State → Prop} {K : ((Int32 × Int32 × Int32 × gG) ⊕ ((Int32 × Int32 × gG))) → Prop} {G : gG} {H : Heap} {locs : List Loc} {ls : Array Slot} (hw : gHw X τ G H locs) (hl : lv_has ls 7 [(0, .ref x0), (1, .int x1), (2, .int x2), (3, .int x3), (4, .int x4), (5, .int x5)]) (hok : gOk (b_X10_span_16 τ n x0 x1 x2 x3 x4 x5 G) K) (hc : ∀ (y3 : Int32) (y4 : Int32) (y5 : Int32) (G : gG) (H : Heap) (locs : List Loc) (ls : Array Slot), gHw X τ G H locs → lv_has ls 7 [(0, .ref x0), (1, .int x1), (2, .int x2), (3, .int y3), (4, .int y4), (5, .int y5)] → K (.inl (y3, y4, y5, G)) → W p l e rm_X10_span s m args below meth c H locs 1 6 Q (F0 m 16 ls [])) (hx0 : ∀ (y3 : Int32) (y4 : Int32) (G : gG) (H : Heap) (locs : List Loc) (ls : Array Slot), gHw X τ G H locs → lv_has ls 7 [(2, .int x2), (3, .int y3), (4, .int y4)] → K (.inr (y3, y4, G)) → W p l e rm_X10_span s m args below meth c H locs 1 6 Q (F0 m 89 ls [])) : W p l e rm_X10_span s m args below meth c H locs 1 6 Q (F0 m 16 ls []) := by
  unfold b_X10_span_16 at hok
  refine lv_iload fx.1 fx.2.1 dX10_span_16 (lv_at hl 5 rfl) ?_
  refine lv_bipush (v := 6) fx.1 fx.2.1 dX10_span_18 (by decide) ?_
  refine g_icmp_gt (tgt := 89) fx dX10_span_20 (by decide) hok (fun hok => ?_) (fun hok => ?_)
  · exact hx0 x3 x4 G _ _ _  hw (lv_sub hl [2, 3, 4] rfl) (gOk_some hok)
  · refine lv_aload_n fx.1 fx.2.1 dX10_span_23 rfl (lv_at hl 0 rfl) ?_
    refine g_getr fx hw h0 lf_RX10_73 rfl dX10_span_24 hok (fun a2 h_a2 hok => ?_)
    refine lv_aload_n fx.1 fx.2.1 dX10_span_27 rfl (lv_at hl 0 rfl) ?_
    refine g_getr fx hw h0 lf_RX10_70 rfl dX10_span_28 hok (fun a3 h_a3 hok => ?_)
    obtain ⟨G4, hf, hok⟩ := gOk_bind hok
    refine g_callV0 (κ := 6) fx hw (c_X6_become l X τ n a2 a3 G h_a2 h_a3 hf) lv_RX10_90 ⟨rfl, rfl⟩ rfl rfl h_a2 rfl hl.1 rfl ⟨Nat.le_of_ble_eq_true rfl, Nat.le_of_ble_eq_true rfl⟩ (Nat.le_of_ble_eq_true rfl) ⟨Nat.le_of_ble_eq_true rfl, Nat.le_of_ble_eq_true rfl⟩ dX10_span_31 (fun H locs hw => ?_)
    refine lv_aload_n fx.1 fx.2.1 dX10_span_34 rfl (lv_at hl 0 rfl) ?_
    refine g_getr fx hw h0 lf_RX10_73 rfl dX10_span_35 hok (fun a5 h_a5 hok => ?_)
    refine lv_iload fx.1 fx.2.1 dX10_span_38 (lv_at hl 5 rfl) ?_
    refine g_puti fx hw h_a5 lp_RX10_403 rfl rfl dX10_span_40 hok (fun G6 H locs hw hok => ?_)
    refine lv_aload_n fx.1 fx.2.1 dX10_span_43 rfl (lv_at hl 0 rfl) ?_
    refine g_getr fx hw h0 lf_RX10_73 rfl dX10_span_44 hok (fun a7 h_a7 hok => ?_)
    refine lv_iload_n fx.1 fx.2.1 dX10_span_47 rfl (lv_at hl 1 rfl) ?_
    refine lv_aload_n fx.1 fx.2.1 dX10_span_48 rfl (lv_at hl 0 rfl) ?_
    refine g_getr fx hw h0 lf_RX10_76 rfl dX10_span_49 hok (fun a8 h_a8 hok => ?_)
    obtain ⟨G9, hf, hok⟩ := gOk_bind hok
    refine g_callV0 (κ := 6) fx hw (c_X6_pass l X τ n a7 x1 a8 G6 h_a7 h_a8 hf) lv_RX10_292 ⟨rfl, rfl⟩ rfl rfl h_a7 rfl hl.1 rfl ⟨Nat.le_of_ble_eq_true rfl, Nat.le_of_ble_eq_true rfl⟩ (Nat.le_of_ble_eq_true rfl) ⟨Nat.le_of_ble_eq_true rfl, Nat.le_of_ble_eq_true rfl⟩ dX10_span_52 (fun H locs hw => ?_)
    refine lv_aload_n fx.1 fx.2.1 dX10_span_55 rfl (lv_at hl 0 rfl) ?_
    refine g_getr fx hw h0 lf_RX10_73 rfl dX10_span_56 hok (fun a10 h_a10 hok => ?_)
    obtain ⟨v11, hf, hok⟩ := gOk_bind hok
    refine g_callV0 (κ := 6) fx hw (c_X6_brokenRopes l X τ n a10 G9 h_a10 hf) lv_RX10_391 ⟨rfl, rfl⟩ rfl rfl h_a10 rfl hl.1 rfl ⟨Nat.le_of_ble_eq_true rfl, Nat.le_of_ble_eq_true rfl⟩ (Nat.le_of_ble_eq_true rfl) ⟨Nat.le_of_ble_eq_true rfl, Nat.le_of_ble_eq_true rfl⟩ dX10_span_59 (fun H locs hw => ?_)
    obtain ⟨v12, hf, hok⟩ := gOk_bind hok
    refine g_callS0 fx hw (c_J6_bitCount_0f7a4 l X τ v11 G9  hf) ls_RX10_350 ⟨rfl, rfl⟩ rfl hl.1 rfl ⟨Nat.le_of_ble_eq_true rfl, Nat.le_of_ble_eq_true rfl⟩ (Nat.le_of_ble_eq_true rfl) ⟨Nat.le_of_ble_eq_true rfl, Nat.le_of_ble_eq_true rfl⟩ dX10_span_62 (fun H locs hw => ?_)
    refine lv_istore (lv' := [(6, .int v12), (0, .ref x0), (1, .int x1), (2, .int x2), (3, .int x3), (4, .int x4), (5, .int x5)]) fx.1 fx.2.1 dX10_span_65 hl (by decide) rfl (fun ls hl => ?_)
    refine lv_iload_n fx.1 fx.2.1 dX10_span_67 rfl (lv_at hl 4 rfl) ?_
    refine lv_iload fx.1 fx.2.1 dX10_span_68 (lv_at hl 0 rfl) ?_
    refine g_mmin fx hl.1 lm_RX10_406 lmst_min lm_init lmco_min ⟨Nat.le_of_ble_eq_true rfl, Nat.le_of_ble_eq_true rfl, Nat.le_of_ble_eq_true rfl, Nat.le_of_ble_eq_true rfl⟩ dX10_span_70 ?_
    refine g_leti hok (fun v13 hok => ?_)
    refine lv_istore_n (lv' := [(3, .int v13), (6, .int v12), (0, .ref x0), (1, .int x1), (2, .int x2), (4, .int x4), (5, .int x5)]) fx.1 fx.2.1 dX10_span_73 rfl hl (by decide) rfl (fun ls hl => ?_)
    refine lv_iload fx.1 fx.2.1 dX10_span_74 (lv_at hl 5 rfl) ?_
    refine lv_iload fx.1 fx.2.1 dX10_span_76 (lv_at hl 1 rfl) ?_
    refine g_mmax fx hl.1 lm_RX10_345 lmst_max lm_init lmco_max ⟨Nat.le_of_ble_eq_true rfl, Nat.le_of_ble_eq_true rfl, Nat.le_of_ble_eq_true rfl, Nat.le_of_ble_eq_true rfl⟩ dX10_span_78 ?_
    refine g_leti hok (fun v14 hok => ?_)
    refine lv_istore (lv' := [(4, .int v14), (3, .int v13), (6, .int v12), (0, .ref x0), (1, .int x1), (2, .int x2), (5, .int x5)]) fx.1 fx.2.1 dX10_span_81 hl (by decide) rfl (fun ls hl => ?_)
    obtain ⟨v15, e_v15, hok⟩ := gOk_let hok
    refine lv_iinc (v := v15) (lv' := [(5, .int v15), (4, .int v14), (3, .int v13), (6, .int v12), (0, .ref x0), (1, .int x1), (2, .int x2)]) fx.1 fx.2.1 dX10_span_83 hl (k := 6) rfl (by rw [e_v15]; rfl) (by decide) rfl (fun ls hl => ?_)
    refine lv_goto (tgt := 16) fx.1 fx.2.1 dX10_span_86 (by decide) ?_
    exact hc v13 v14 v15 G9 _ _ _  hw (lv_sub hl [4, 5, 6, 2, 1, 0] rfl) (gOk_some hok)
theorem w_l_X10_span_16 {X : gX} {τ : gτ} {p : Program} {l : Launch} {e : Env} {s : State} {m : MethodId} {args : Array Value} {below : List Frame} {meth : Method} {c : Code} (fx : gFx X p s m args meth c cX10_span 7 RX10) (hS : gS0 l X) (hxt : ∀ x ∈ c.exceptionTable.toList, False) (n : Nat) (x0 : Nat) (x1 : Int32) (x2 : Int32) (h0 : gK τ x0 10) {Q : State → Prop} {K : ((Int32 × Int32 × gG)) → Prop} (hx0 : ∀ (y3 : Int32) (y4 : Int32) (G : gG) (H : Heap) (locs : List Loc) (ls : Array Slot), gHw X τ G H locs → lv_has ls 7 [(2, .int x2), (3, .int y3), (4, .int y4)] → K (y3, y4, G) → W p l e rm_X10_span s m args below meth c H locs 1 6 Q (F0 m 89 ls [])) : ∀ (k : Nat) (x3 : Int32) (x4 : Int32) (x5 : Int32) (G : gG) (H : Heap) (locs : List Loc) (ls : Array Slot), gHw X τ G H locs → lv_has ls 7 [(0, .ref x0), (1, .int x1), (2, .int x2), (3, .int x3), (4, .int x4), (5, .int x5)] → gOk (gIter (fun (q : Int32 × Int32 × Int32 × gG) => b_X10_span_16 τ n x0 x1 x2 q.1 q.2.1 q.2.2.1 q.2.2.2) k (x3, x4, x5, G)) K → W p l e rm_X10_span s m args below meth c H locs 1 6 Q (F0 m 16 ls []) := by
  intro k
  induction k with
  | zero =>
    intro x3 x4 x5 G H locs ls hw hl hok
    exact gOk_iter0 hok
  | succ k hc =>
    intro x3 x4 x5 G H locs ls hw hl hok
    exact w_b_X10_span_16 fx hS hxt n x0 x1 x2 x3 x4 x5 h0 hw hl (gOk_iter hok) hc hx0
set_option maxHeartbeats 4000000 in
set_option maxRecDepth 100000 in
theorem w_X10_span_89 {X : gX} {τ : gτ} {p : Program} {l : Launch} {e : Env} {s : State} {m : MethodId} {args : Array Value} {below : List Frame} {meth : Method} {c : Code} (fx : gFx X p s m args meth c cX10_span 7 RX10) (hS : gS0 l X) (hxt : ∀ x ∈ c.exceptionTable.toList, False) (n : Nat) (x2 : Int32) (x3 : Int32) (x4 : Int32)    (hr : meth.sig.returnType = (some .int)) {r : String ⊕ Int32} {G' : gG} {G : gG} {H : Heap} {locs : List Loc} {ls : Array Slot} (hw : gHw X τ G H locs) (hl : lv_has ls 7 [(2, .int x2), (3, .int x3), (4, .int x4)]) (hok : gOk (k_X10_span_89 τ n x2 x3 x4  G) (fun q => q = (r, G')))  : W p l e rm_X10_span s m args below meth c H locs 1 6 (vx_MQ below (gQX X τ (gOi r) G') (gXC X τ (gOi r) G') args s rm_X10_span.cells rm_X10_span.slots (gFree X)) (F0 m 89 ls []) := by
  unfold k_X10_span_89 at hok
  refine lv_iload_n fx.1 fx.2.1 dX10_span_89 rfl (lv_at hl 0 rfl) ?_
  refine g_if_eq (tgt := 98) fx dX10_span_90 (by decide) hok (fun hok => ?_) (fun hok => ?_)
  · refine lv_iload_n fx.1 fx.2.1 dX10_span_98 rfl (lv_at hl 1 rfl) ?_
    cases gOk_some hok
    exact g_iretX fx hw hr ⟨Nat.le_of_ble_eq_true rfl, Nat.le_of_ble_eq_true rfl⟩ dX10_span_99
  · refine lv_iload fx.1 fx.2.1 dX10_span_93 (lv_at hl 2 rfl) ?_
    refine lv_goto (tgt := 99) fx.1 fx.2.1 dX10_span_95 (by decide) ?_
    cases gOk_some hok
    exact g_iretX fx hw hr ⟨Nat.le_of_ble_eq_true rfl, Nat.le_of_ble_eq_true rfl⟩ dX10_span_99
set_option maxHeartbeats 4000000 in
set_option maxRecDepth 100000 in
theorem c_X10_span (l : Launch) (X : gX) (τ : gτ) (n : Nat) (hS : gS0 l X) (x0 : Nat) (x1 : Int32) (x2 : Int32) (G : gG) (h0 : gK τ x0 10) {r : String ⊕ Int32} {G' : gG} (h : f_X10_span τ n x0 x1 x2 G = some (r, G')) : gMX l X τ yX10_span cX10_span 7 (some .int) rm_X10_span [.ref x0, .int x1, .int x2] G (gOi r) G' := by
  refine g_bodyX (by decide +kernel) (Nat.le_of_ble_eq_true rfl) ?_
  intro p e s m args below meth c ls fx hr hxt hw hl
  have fx : gFx X p s m args meth c cX10_span 7 RX10 := fx
  have hl : lv_has ls 7 [(0, .ref x0), (1, .int x1), (2, .int x2)] := hl
  have hok : gOk (f_X10_span τ n x0 x1 x2 G) (fun q => q = (r, G')) := ⟨_, h, rfl⟩
  unfold f_X10_span at hok
  show W p l e rm_X10_span s m args below meth c s.heap [] 0 0 (vx_MQ below (gQX X τ (gOi r) G') (gXC X τ (gOi r) G') args s rm_X10_span.cells rm_X10_span.slots (gFree X)) _
  refine lv_iload_n fx.1 fx.2.1 dX10_span_0 rfl (lv_at hl 1 rfl) ?_
  refine lv_iconst (v := 0) fx.1 fx.2.1 dX10_span_1 (by decide) ?_
  refine lv_bipush (v := 40) fx.1 fx.2.1 dX10_span_2 (by decide) ?_
  rcases gOk_bindX hok with ⟨E, G9, hf, hK⟩ | ⟨u, G1, hf, hok⟩
  · have hK : (Sum.inl E, G9) = (r, G') := hK
    cases hK
    refine g_callSX (As := [.int x1, .int (0 : Int32), .int (40 : Int32)]) fx hw hxt (c_X10_needWithin l X τ hS x1 (0 : Int32) (40 : Int32) G  hf) ls_RX10_224 rfl hl.1 rfl ⟨Nat.le_of_ble_eq_true rfl, Nat.le_of_ble_eq_true rfl⟩ (Nat.le_of_ble_eq_true rfl) ⟨Nat.le_of_ble_eq_true rfl, Nat.le_of_ble_eq_true rfl⟩ ⟨Nat.le_of_ble_eq_true rfl, Nat.le_of_ble_eq_true rfl⟩ dX10_span_4 (fun u H locs hv hw => ?_) (fun E9 hE => ?_)
    · have hv : (Sum.inl E : String ⊕ Option Value) = Sum.inr u := hv
      cases hv
    · have hE : (Sum.inl E : String ⊕ Option Value) = Sum.inl E9 := hE
      cases hE
      exact ⟨rfl, rfl⟩
  refine g_callSX (As := [.int x1, .int (0 : Int32), .int (40 : Int32)]) fx hw hxt (c_X10_needWithin l X τ hS x1 (0 : Int32) (40 : Int32) G  hf) ls_RX10_224 rfl hl.1 rfl ⟨Nat.le_of_ble_eq_true rfl, Nat.le_of_ble_eq_true rfl⟩ (Nat.le_of_ble_eq_true rfl) ⟨Nat.le_of_ble_eq_true rfl, Nat.le_of_ble_eq_true rfl⟩ ⟨Nat.le_of_ble_eq_true rfl, Nat.le_of_ble_eq_true rfl⟩ dX10_span_4 (fun u9 H locs hv hw => ?_) (fun E9 hE => by have hE : (Sum.inr none : String ⊕ Option Value) = Sum.inl E9 := hE; cases hE)
  have hv : (Sum.inr none : String ⊕ Option Value) = Sum.inr u9 := hv
  cases hv
  refine lv_bipush (v := 8) fx.1 fx.2.1 dX10_span_7 (by decide) ?_
  refine lv_istore_n (lv' := [(3, .int (8 : Int32)), (0, .ref x0), (1, .int x1), (2, .int x2)]) fx.1 fx.2.1 dX10_span_9 rfl hl (by decide) rfl (fun ls hl => ?_)
  refine lv_iconst (v := 0) fx.1 fx.2.1 dX10_span_10 (by decide) ?_
  refine lv_istore (lv' := [(4, .int (0 : Int32)), (3, .int (8 : Int32)), (0, .ref x0), (1, .int x1), (2, .int x2)]) fx.1 fx.2.1 dX10_span_11 hl (by decide) rfl (fun ls hl => ?_)
  refine lv_iconst (v := 1) fx.1 fx.2.1 dX10_span_13 (by decide) ?_
  refine lv_istore (lv' := [(5, .int (1 : Int32)), (4, .int (0 : Int32)), (3, .int (8 : Int32)), (0, .ref x0), (1, .int x1), (2, .int x2)]) fx.1 fx.2.1 dX10_span_14 hl (by decide) rfl (fun ls hl => ?_)
  refine w_l_X10_span_16 fx hS hxt n x0 x1 x2 h0 ?_ n (8 : Int32) (0 : Int32) (1 : Int32) G1 _ _ _  hw (lv_sub hl [3, 4, 5, 2, 1, 0] rfl) (gOk_bindK hok)
  intro z16 z17 G18 H locs ls hw hl hok
  have hok : gOk (ρ := (String ⊕ Int32) × gG) (k_X10_span_89 τ n x2 z16 z17  G18) _ := hok
  exact w_X10_span_89 fx hS hxt n x2 z16 z17    hr hw (lv_sub hl [0, 1, 2] rfl) hok
theorem dX10_led_0 : decode cX10_led 0 = .ok (.aload_n 0, 1) := by decide +kernel
theorem dX10_led_1 : decode cX10_led 1 = .ok (.iload_n 1, 1) := by decide +kernel
theorem dX10_led_2 : decode cX10_led 2 = .ok (.invokevirtual 127, 3) := by decide +kernel
theorem dX10_led_5 : decode cX10_led 5 = .ok (.pop, 1) := by decide +kernel
theorem dX10_led_6 : decode cX10_led 6 = .ok (.iload_n 2, 1) := by decide +kernel
theorem dX10_led_7 : decode cX10_led 7 = .ok (.ifCond .eq 17, 3) := by decide +kernel
theorem dX10_led_10 : decode cX10_led 10 = .ok (.aload_n 0, 1) := by decide +kernel
theorem dX10_led_11 : decode cX10_led 11 = .ok (.getfield 70, 3) := by decide +kernel
theorem dX10_led_14 : decode cX10_led 14 = .ok (.getfield 409, 3) := by decide +kernel
theorem dX10_led_17 : decode cX10_led 17 = .ok (.iload_n 1, 1) := by decide +kernel
theorem dX10_led_18 : decode cX10_led 18 = .ok (.invokevirtual 413, 3) := by decide +kernel
theorem dX10_led_21 : decode cX10_led 21 = .ok (.goto 14, 3) := by decide +kernel
theorem dX10_led_24 : decode cX10_led 24 = .ok (.aload_n 0, 1) := by decide +kernel
theorem dX10_led_25 : decode cX10_led 25 = .ok (.getfield 70, 3) := by decide +kernel
theorem dX10_led_28 : decode cX10_led 28 = .ok (.getfield 409, 3) := by decide +kernel
theorem dX10_led_31 : decode cX10_led 31 = .ok (.iload_n 1, 1) := by decide +kernel
theorem dX10_led_32 : decode cX10_led 32 = .ok (.invokevirtual 418, 3) := by decide +kernel
theorem dX10_led_35 : decode cX10_led 35 = .ok (.ireturn, 1) := by decide +kernel
theorem lf_RX10_409 : gLf RX10 409 6 3 := ⟨(RX6, TX6, 15), rfl, by decide, wA_t (wt2 (List.mem_of_getElem? (i := 15) (by decide +kernel))) (by decide +kernel), rfl⟩
theorem lv_RX10_418 : gLv RX10 418 RX0 yX0_rowsOf cX0_rowsOf 4 (some .int) 1 := gLv_of (wA_t (wt6 (List.mem_of_getElem? (i := 190) (by decide +kernel))) (by decide +kernel)) (wA_t (wt6 (List.mem_of_getElem? (i := 191) (by decide +kernel))) (by decide +kernel)) (wA_t (wt6 (List.mem_of_getElem? (i := 192) (by decide +kernel))) (by decide +kernel)) (wA_t (wt1 (List.mem_of_getElem? (i := 7) (by decide +kernel))) (by decide +kernel)) (wA_t (wt6 (List.mem_of_getElem? (i := 193) (by decide +kernel))) (by decide +kernel)) ⟨rfl, by decide +kernel, by decide +kernel, by decide +kernel⟩
theorem lv_RX10_413 : gLv RX10 413 RX0 yX0_loadsOf cX0_loadsOf 4 (some .int) 1 := gLv_of (wA_t (wt6 (List.mem_of_getElem? (i := 178) (by decide +kernel))) (by decide +kernel)) (wA_t (wt6 (List.mem_of_getElem? (i := 179) (by decide +kernel))) (by decide +kernel)) (wA_t (wt6 (List.mem_of_getElem? (i := 180) (by decide +kernel))) (by decide +kernel)) (wA_t (wt1 (List.mem_of_getElem? (i := 7) (by decide +kernel))) (by decide +kernel)) (wA_t (wt6 (List.mem_of_getElem? (i := 181) (by decide +kernel))) (by decide +kernel)) ⟨rfl, by decide +kernel, by decide +kernel, by decide +kernel⟩
def rm_X10_led : Room := { frames := 7, cells := 1, slots := 6, locals := 141 }
def f_X10_led (τ : gτ) (n : Nat) (x0 : Nat) (x1 : Int32) (x2 : Int32) (G : gG) : Option ((String ⊕ Int32) × gG) :=
  gBindX (f_X10_yarnOf τ x0 x1 G) fun a1 G2 =>
  gchk (gkd τ a1 9) <|
  if x2 = 0 then ((gr G2 10 10 x0).bind fun a3 =>
  (gr G2 6 3 a3).bind fun a4 =>
  (f_X0_rowsOf τ n a4 x1 G2).bind fun v5 =>
  some (.inr v5, G2))
  else ((gr G2 10 10 x0).bind fun a6 =>
  (gr G2 6 3 a6).bind fun a7 =>
  (f_X0_loadsOf τ n a7 x1 G2).bind fun v8 =>
  some (.inr v8, G2))
set_option maxHeartbeats 4000000 in
set_option maxRecDepth 100000 in
theorem c_X10_led (l : Launch) (X : gX) (τ : gτ) (n : Nat) (hS : gS0 l X) (x0 : Nat) (x1 : Int32) (x2 : Int32) (G : gG) (h0 : gK τ x0 10) {r : String ⊕ Int32} {G' : gG} (h : f_X10_led τ n x0 x1 x2 G = some (r, G')) : gMX l X τ yX10_led cX10_led 3 (some .int) rm_X10_led [.ref x0, .int x1, .int x2] G (gOi r) G' := by
  refine g_bodyX (by decide +kernel) (Nat.le_of_ble_eq_true rfl) ?_
  intro p e s m args below meth c ls fx hr hxt hw hl
  have fx : gFx X p s m args meth c cX10_led 3 RX10 := fx
  have hl : lv_has ls 3 [(0, .ref x0), (1, .int x1), (2, .int x2)] := hl
  have hok : gOk (f_X10_led τ n x0 x1 x2 G) (fun q => q = (r, G')) := ⟨_, h, rfl⟩
  unfold f_X10_led at hok
  show W p l e rm_X10_led s m args below meth c s.heap [] 0 0 (vx_MQ below (gQX X τ (gOi r) G') (gXC X τ (gOi r) G') args s rm_X10_led.cells rm_X10_led.slots (gFree X)) _
  refine lv_aload_n fx.1 fx.2.1 dX10_led_0 rfl (lv_at hl 0 rfl) ?_
  refine lv_iload_n fx.1 fx.2.1 dX10_led_1 rfl (lv_at hl 1 rfl) ?_
  rcases gOk_bindX hok with ⟨E, G9, hf, hK⟩ | ⟨a1, G2, hf, hok⟩
  · have hK : (Sum.inl E, G9) = (r, G') := hK
    cases hK
    refine g_callVX (κ := 10) (As := [.int x1]) fx hw hxt (c_X10_yarnOf l X τ hS x0 x1 G h0 hf) lv_RX10_127 rfl rfl h0 rfl hl.1 rfl ⟨Nat.le_of_ble_eq_true rfl, Nat.le_of_ble_eq_true rfl⟩ (Nat.le_of_ble_eq_true rfl) ⟨Nat.le_of_ble_eq_true rfl, Nat.le_of_ble_eq_true rfl⟩ ⟨Nat.le_of_ble_eq_true rfl, Nat.le_of_ble_eq_true rfl⟩ dX10_led_2 (fun u H locs hv hw => ?_) (fun E9 hE => ?_)
    · have hv : (Sum.inl E : String ⊕ Option Value) = Sum.inr u := hv
      cases hv
    · have hE : (Sum.inl E : String ⊕ Option Value) = Sum.inl E9 := hE
      cases hE
      exact ⟨rfl, rfl⟩
  refine g_callVX (κ := 10) (As := [.int x1]) fx hw hxt (c_X10_yarnOf l X τ hS x0 x1 G h0 hf) lv_RX10_127 rfl rfl h0 rfl hl.1 rfl ⟨Nat.le_of_ble_eq_true rfl, Nat.le_of_ble_eq_true rfl⟩ (Nat.le_of_ble_eq_true rfl) ⟨Nat.le_of_ble_eq_true rfl, Nat.le_of_ble_eq_true rfl⟩ ⟨Nat.le_of_ble_eq_true rfl, Nat.le_of_ble_eq_true rfl⟩ dX10_led_2 (fun u9 H locs hv hw => ?_) (fun E9 hE => by have hE : (Sum.inr (some (.ref a1)) : String ⊕ Option Value) = Sum.inl E9 := hE; cases hE)
  have hv : (Sum.inr (some (.ref a1)) : String ⊕ Option Value) = Sum.inr u9 := hv
  cases hv
  obtain ⟨h_a1, hok⟩ := gOk_chk hok
  have h_a1 : gK τ a1 9 := gkd_K h_a1
  refine lv_pop fx.1 fx.2.1 dX10_led_5 rfl ?_
  refine lv_iload_n fx.1 fx.2.1 dX10_led_6 rfl (lv_at hl 2 rfl) ?_
  refine g_if_eq (tgt := 24) fx dX10_led_7 (by decide) hok (fun hok => ?_) (fun hok => ?_)
  · refine lv_aload_n fx.1 fx.2.1 dX10_led_24 rfl (lv_at hl 0 rfl) ?_
    refine g_getr fx hw h0 lf_RX10_70 rfl dX10_led_25 hok (fun a3 h_a3 hok => ?_)
    refine g_getr fx hw h_a3 lf_RX10_409 rfl dX10_led_28 hok (fun a4 h_a4 hok => ?_)
    refine lv_iload_n fx.1 fx.2.1 dX10_led_31 rfl (lv_at hl 1 rfl) ?_
    obtain ⟨v5, hf, hok⟩ := gOk_bind hok
    refine g_callV0 (κ := 0) fx hw (c_X0_rowsOf l X τ n a4 x1 G2 h_a4 hf) lv_RX10_418 ⟨rfl, rfl⟩ rfl rfl h_a4 rfl hl.1 rfl ⟨Nat.le_of_ble_eq_true rfl, Nat.le_of_ble_eq_true rfl⟩ (Nat.le_of_ble_eq_true rfl) ⟨Nat.le_of_ble_eq_true rfl, Nat.le_of_ble_eq_true rfl⟩ dX10_led_32 (fun H locs hw => ?_)
    cases gOk_some hok
    exact g_iretX fx hw hr ⟨Nat.le_of_ble_eq_true rfl, Nat.le_of_ble_eq_true rfl⟩ dX10_led_35
  · refine lv_aload_n fx.1 fx.2.1 dX10_led_10 rfl (lv_at hl 0 rfl) ?_
    refine g_getr fx hw h0 lf_RX10_70 rfl dX10_led_11 hok (fun a6 h_a6 hok => ?_)
    refine g_getr fx hw h_a6 lf_RX10_409 rfl dX10_led_14 hok (fun a7 h_a7 hok => ?_)
    refine lv_iload_n fx.1 fx.2.1 dX10_led_17 rfl (lv_at hl 1 rfl) ?_
    obtain ⟨v8, hf, hok⟩ := gOk_bind hok
    refine g_callV0 (κ := 0) fx hw (c_X0_loadsOf l X τ n a7 x1 G2 h_a7 hf) lv_RX10_413 ⟨rfl, rfl⟩ rfl rfl h_a7 rfl hl.1 rfl ⟨Nat.le_of_ble_eq_true rfl, Nat.le_of_ble_eq_true rfl⟩ (Nat.le_of_ble_eq_true rfl) ⟨Nat.le_of_ble_eq_true rfl, Nat.le_of_ble_eq_true rfl⟩ dX10_led_18 (fun H locs hw => ?_)
    refine lv_goto (tgt := 35) fx.1 fx.2.1 dX10_led_21 (by decide) ?_
    cases gOk_some hok
    exact g_iretX fx hw hr ⟨Nat.le_of_ble_eq_true rfl, Nat.le_of_ble_eq_true rfl⟩ dX10_led_35
theorem dX10_log_0 : decode cX10_log 0 = .ok (.iload_n 2, 1) := by decide +kernel
theorem dX10_log_1 : decode cX10_log 1 = .ok (.ifCond .lt 8, 3) := by decide +kernel
theorem dX10_log_4 : decode cX10_log 4 = .ok (.iload_n 2, 1) := by decide +kernel
theorem dX10_log_5 : decode cX10_log 5 = .ok (.iconst 5, 1) := by decide +kernel
theorem dX10_log_6 : decode cX10_log 6 = .ok (.if_icmp .lt 14, 3) := by decide +kernel
theorem dX10_log_9 : decode cX10_log 9 = .ok (.new 151, 3) := by decide +kernel
theorem dX10_log_12 : decode cX10_log 12 = .ok (.dup, 1) := by decide +kernel
theorem dX10_log_13 : decode cX10_log 13 = .ok (.ldc_w 421, 3) := by decide +kernel
theorem dX10_log_16 : decode cX10_log 16 = .ok (.invokespecial 155, 3) := by decide +kernel
theorem dX10_log_19 : decode cX10_log 19 = .ok (.athrow, 1) := by decide +kernel
theorem dX10_log_20 : decode cX10_log 20 = .ok (.aload_n 0, 1) := by decide +kernel
theorem dX10_log_21 : decode cX10_log 21 = .ok (.getfield 70, 3) := by decide +kernel
theorem dX10_log_24 : decode cX10_log 24 = .ok (.getfield 409, 3) := by decide +kernel
theorem dX10_log_27 : decode cX10_log 27 = .ok (.iload_n 1, 1) := by decide +kernel
theorem dX10_log_28 : decode cX10_log 28 = .ok (.iload_n 2, 1) := by decide +kernel
theorem dX10_log_29 : decode cX10_log 29 = .ok (.invokevirtual 423, 3) := by decide +kernel
theorem dX10_log_32 : decode cX10_log 32 = .ok (.ireturn, 1) := by decide +kernel
theorem lv_RX10_423 : gLv RX10 423 RX0 yX0_cell cX0_cell 4 (some .int) 2 := gLv_of (wA_t (wt6 (List.mem_of_getElem? (i := 202) (by decide +kernel))) (by decide +kernel)) (wA_t (wt6 (List.mem_of_getElem? (i := 187) (by decide +kernel))) (by decide +kernel)) (wA_t (wt6 (List.mem_of_getElem? (i := 188) (by decide +kernel))) (by decide +kernel)) (wA_t (wt1 (List.mem_of_getElem? (i := 7) (by decide +kernel))) (by decide +kernel)) (wA_t (wt6 (List.mem_of_getElem? (i := 189) (by decide +kernel))) (by decide +kernel)) ⟨rfl, by decide +kernel, by decide +kernel, by decide +kernel⟩
def rm_X10_log : Room := { frames := 6, cells := 1, slots := 6, locals := 120 }
def f_X10_log (τ : gτ) (x0 : Nat) (x1 : Int32) (x2 : Int32) (G : gG) : Option ((String ⊕ Int32) × gG) :=
  if x2 < 0 then (some (.inl x_NSE, G))
  else (if x2 < (5 : Int32) then ((gr G 10 10 x0).bind fun a1 =>
  (gr G 6 3 a1).bind fun a2 =>
  (f_X0_cell τ a2 x1 x2 G).bind fun v3 =>
  some (.inr v3, G))
  else (some (.inl x_NSE, G)))
set_option maxHeartbeats 4000000 in
set_option maxRecDepth 100000 in
theorem c_X10_log (l : Launch) (X : gX) (τ : gτ) (hS : gS0 l X) (x0 : Nat) (x1 : Int32) (x2 : Int32) (G : gG) (h0 : gK τ x0 10) {r : String ⊕ Int32} {G' : gG} (h : f_X10_log τ x0 x1 x2 G = some (r, G')) : gMX l X τ yX10_log cX10_log 3 (some .int) rm_X10_log [.ref x0, .int x1, .int x2] G (gOi r) G' := by
  refine g_bodyX (by decide +kernel) (Nat.le_of_ble_eq_true rfl) ?_
  intro p e s m args below meth c ls fx hr hxt hw hl
  have fx : gFx X p s m args meth c cX10_log 3 RX10 := fx
  have hl : lv_has ls 3 [(0, .ref x0), (1, .int x1), (2, .int x2)] := hl
  have hok : gOk (f_X10_log τ x0 x1 x2 G) (fun q => q = (r, G')) := ⟨_, h, rfl⟩
  unfold f_X10_log at hok
  show W p l e rm_X10_log s m args below meth c s.heap [] 0 0 (vx_MQ below (gQX X τ (gOi r) G') (gXC X τ (gOi r) G') args s rm_X10_log.cells rm_X10_log.slots (gFree X)) _
  refine lv_iload_n fx.1 fx.2.1 dX10_log_0 rfl (lv_at hl 2 rfl) ?_
  refine g_if_lt (tgt := 9) fx dX10_log_1 (by decide) hok (fun hok => ?_) (fun hok => ?_)
  · cases gOk_some hok
    exact g_throwNW fx hw hS hl.1 hxt lxn_RX10_151 gt_RX10_421 dX10_log_9 dX10_log_12 dX10_log_13 dX10_log_16 dX10_log_19 ⟨Nat.le_of_ble_eq_true rfl, Nat.le_of_ble_eq_true rfl, Nat.le_of_ble_eq_true rfl, Nat.le_of_ble_eq_true rfl⟩ ⟨Nat.le_of_ble_eq_true rfl, Nat.le_of_ble_eq_true rfl⟩
  · refine lv_iload_n fx.1 fx.2.1 dX10_log_4 rfl (lv_at hl 2 rfl) ?_
    refine lv_iconst (v := 5) fx.1 fx.2.1 dX10_log_5 (by decide) ?_
    refine g_icmp_lt (tgt := 20) fx dX10_log_6 (by decide) hok (fun hok => ?_) (fun hok => ?_)
    · refine lv_aload_n fx.1 fx.2.1 dX10_log_20 rfl (lv_at hl 0 rfl) ?_
      refine g_getr fx hw h0 lf_RX10_70 rfl dX10_log_21 hok (fun a1 h_a1 hok => ?_)
      refine g_getr fx hw h_a1 lf_RX10_409 rfl dX10_log_24 hok (fun a2 h_a2 hok => ?_)
      refine lv_iload_n fx.1 fx.2.1 dX10_log_27 rfl (lv_at hl 1 rfl) ?_
      refine lv_iload_n fx.1 fx.2.1 dX10_log_28 rfl (lv_at hl 2 rfl) ?_
      obtain ⟨v3, hf, hok⟩ := gOk_bind hok
      refine g_callV0 (κ := 0) fx hw (c_X0_cell l X τ a2 x1 x2 G h_a2 hf) lv_RX10_423 ⟨rfl, rfl⟩ rfl rfl h_a2 rfl hl.1 rfl ⟨Nat.le_of_ble_eq_true rfl, Nat.le_of_ble_eq_true rfl⟩ (Nat.le_of_ble_eq_true rfl) ⟨Nat.le_of_ble_eq_true rfl, Nat.le_of_ble_eq_true rfl⟩ dX10_log_29 (fun H locs hw => ?_)
      cases gOk_some hok
      exact g_iretX fx hw hr ⟨Nat.le_of_ble_eq_true rfl, Nat.le_of_ble_eq_true rfl⟩ dX10_log_32
    · cases gOk_some hok
      exact g_throwNW fx hw hS hl.1 hxt lxn_RX10_151 gt_RX10_421 dX10_log_9 dX10_log_12 dX10_log_13 dX10_log_16 dX10_log_19 ⟨Nat.le_of_ble_eq_true rfl, Nat.le_of_ble_eq_true rfl, Nat.le_of_ble_eq_true rfl, Nat.le_of_ble_eq_true rfl⟩ ⟨Nat.le_of_ble_eq_true rfl, Nat.le_of_ble_eq_true rfl⟩
theorem dX10_seed_0 : decode cX10_seed 0 = .ok (.aload_n 0, 1) := by decide +kernel
theorem dX10_seed_1 : decode cX10_seed 1 = .ok (.getfield 70, 3) := by decide +kernel
theorem dX10_seed_4 : decode cX10_seed 4 = .ok (.getfield 403, 3) := by decide +kernel
theorem dX10_seed_7 : decode cX10_seed 7 = .ok (.istore_n 2, 1) := by decide +kernel
theorem dX10_seed_8 : decode cX10_seed 8 = .ok (.aload_n 0, 1) := by decide +kernel
theorem dX10_seed_9 : decode cX10_seed 9 = .ok (.getfield 70, 3) := by decide +kernel
theorem dX10_seed_12 : decode cX10_seed 12 = .ok (.iload_n 1, 1) := by decide +kernel
theorem dX10_seed_13 : decode cX10_seed 13 = .ok (.putfield 403, 3) := by decide +kernel
theorem dX10_seed_16 : decode cX10_seed 16 = .ok (.iload_n 2, 1) := by decide +kernel
theorem dX10_seed_17 : decode cX10_seed 17 = .ok (.ireturn, 1) := by decide +kernel
theorem lf_RX10_403 : gLf RX10 403 6 11 := ⟨(RX6, TX6, 15), rfl, by decide, wA_t (wt2 (List.mem_of_getElem? (i := 36) (by decide +kernel))) (by decide +kernel), rfl⟩
def rm_X10_seed : Room := { frames := 0, cells := 0, slots := 0, locals := 0 }
def f_X10_seed (x0 : Nat) (x1 : Int32) (G : gG) : Option (Int32 × gG) :=
  (gr G 10 10 x0).bind fun a1 =>
  gLet (gi G 6 11 a1) fun v2 =>
  (gr G 10 10 x0).bind fun a3 =>
  gLet (gsi G 6 11 a3 x1) fun G4 =>
  some (v2, G4)
set_option maxHeartbeats 4000000 in
set_option maxRecDepth 100000 in
theorem c_X10_seed (l : Launch) (X : gX) (τ : gτ) (x0 : Nat) (x1 : Int32) (G : gG) (h0 : gK τ x0 10) {r : Int32} {G' : gG} (h : f_X10_seed x0 x1 G = some (r, G')) : gM l X τ yX10_seed cX10_seed 3 (some .int) rm_X10_seed [.ref x0, .int x1] G (some (.int r)) G' := by
  refine g_body (by decide +kernel) (Nat.le_of_ble_eq_true rfl) ?_
  intro p e s m args below meth c ls fx hr hw hl
  have fx : gFx X p s m args meth c cX10_seed 3 RX10 := fx
  have hl : lv_has ls 3 [(0, .ref x0), (1, .int x1)] := hl
  have hok : gOk (f_X10_seed x0 x1 G) (fun q => q = (r, G')) := ⟨_, h, rfl⟩
  unfold f_X10_seed at hok
  show W p l e rm_X10_seed s m args below meth c s.heap [] 0 0 (MQ below (gQ X τ (some (.int r)) G') args s 0 0 (gFree X)) _
  refine lv_aload_n fx.1 fx.2.1 dX10_seed_0 rfl (lv_at hl 0 rfl) ?_
  refine g_getr fx hw h0 lf_RX10_70 rfl dX10_seed_1 hok (fun a1 h_a1 hok => ?_)
  refine g_geti fx hw h_a1 lf_RX10_403 rfl dX10_seed_4 ?_
  refine g_leti hok (fun v2 hok => ?_)
  refine lv_istore_n (lv' := [(2, .int v2), (0, .ref x0), (1, .int x1)]) fx.1 fx.2.1 dX10_seed_7 rfl hl (by decide) rfl (fun ls hl => ?_)
  refine lv_aload_n fx.1 fx.2.1 dX10_seed_8 rfl (lv_at hl 1 rfl) ?_
  refine g_getr fx hw h0 lf_RX10_70 rfl dX10_seed_9 hok (fun a3 h_a3 hok => ?_)
  refine lv_iload_n fx.1 fx.2.1 dX10_seed_12 rfl (lv_at hl 2 rfl) ?_
  refine g_puti fx hw h_a3 lp_RX10_403 rfl rfl dX10_seed_13 hok (fun G4 H locs hw hok => ?_)
  refine lv_iload_n fx.1 fx.2.1 dX10_seed_16 rfl (lv_at hl 0 rfl) ?_
  cases gOk_some hok
  exact g_iret fx hw hr dX10_seed_17
theorem dX10_undo_0 : decode cX10_undo 0 = .ok (.aload_n 0, 1) := by decide +kernel
theorem dX10_undo_1 : decode cX10_undo 1 = .ok (.getfield 35, 3) := by decide +kernel
theorem dX10_undo_4 : decode cX10_undo 4 = .ok (.aload_n 0, 1) := by decide +kernel
theorem dX10_undo_5 : decode cX10_undo 5 = .ok (.getfield 70, 3) := by decide +kernel
theorem dX10_undo_8 : decode cX10_undo 8 = .ok (.invokevirtual 426, 3) := by decide +kernel
theorem dX10_undo_11 : decode cX10_undo 11 = .ok (.ireturn, 1) := by decide +kernel
theorem lv_RX10_426 : gLv RX10 426 RX3 yX3_recall cX3_recall 2 (some .boolean) 1 := gLv_of (wA_t (wt3 (List.mem_of_getElem? (i := 91) (by decide +kernel))) (by decide +kernel)) (wA_t (wt3 (List.mem_of_getElem? (i := 92) (by decide +kernel))) (by decide +kernel)) (wA_t (wt3 (List.mem_of_getElem? (i := 93) (by decide +kernel))) (by decide +kernel)) (wA_t (wt1 (List.mem_of_getElem? (i := 5) (by decide +kernel))) (by decide +kernel)) (wA_t (wt3 (List.mem_of_getElem? (i := 94) (by decide +kernel))) (by decide +kernel)) ⟨rfl, by decide +kernel, by decide +kernel, by decide +kernel⟩
def rm_X10_undo : Room := { frames := 4, cells := 0, slots := 0, locals := 104 }
def f_X10_undo (τ : gτ) (n : Nat) (x0 : Nat) (G : gG) : Option (Int32 × gG) :=
  (gr G 10 3 x0).bind fun a1 =>
  (gr G 10 10 x0).bind fun a2 =>
  gBind2 (f_X3_recall τ n a1 a2 G) fun v3 G4 =>
  gchk (v3 = 0 ∨ v3 = 1) <| some (v3, G4)
set_option maxHeartbeats 4000000 in
set_option maxRecDepth 100000 in
theorem c_X10_undo (l : Launch) (X : gX) (τ : gτ) (n : Nat) (x0 : Nat) (G : gG) (h0 : gK τ x0 10) {r : Int32} {G' : gG} (h : f_X10_undo τ n x0 G = some (r, G')) : gM l X τ yX10_undo cX10_undo 1 (some .boolean) rm_X10_undo [.ref x0] G (some (.int r)) G' := by
  refine g_body (by decide +kernel) (Nat.le_of_ble_eq_true rfl) ?_
  intro p e s m args below meth c ls fx hr hw hl
  have fx : gFx X p s m args meth c cX10_undo 1 RX10 := fx
  have hl : lv_has ls 1 [(0, .ref x0)] := hl
  have hok : gOk (f_X10_undo τ n x0 G) (fun q => q = (r, G')) := ⟨_, h, rfl⟩
  unfold f_X10_undo at hok
  show W p l e rm_X10_undo s m args below meth c s.heap [] 0 0 (MQ below (gQ X τ (some (.int r)) G') args s 0 0 (gFree X)) _
  refine lv_aload_n fx.1 fx.2.1 dX10_undo_0 rfl (lv_at hl 0 rfl) ?_
  refine g_getr fx hw h0 lf_RX10_35 rfl dX10_undo_1 hok (fun a1 h_a1 hok => ?_)
  refine lv_aload_n fx.1 fx.2.1 dX10_undo_4 rfl (lv_at hl 0 rfl) ?_
  refine g_getr fx hw h0 lf_RX10_70 rfl dX10_undo_5 hok (fun a2 h_a2 hok => ?_)
  obtain ⟨v3, G4, hf, hok⟩ := gOk_bind2 hok
  refine g_callV0 (κ := 3) fx hw (c_X3_recall l X τ n a1 a2 G h_a1 h_a2 hf) lv_RX10_426 ⟨rfl, rfl⟩ rfl rfl h_a1 rfl hl.1 rfl ⟨Nat.le_of_ble_eq_true rfl, Nat.le_of_ble_eq_true rfl⟩ (Nat.le_of_ble_eq_true rfl) ⟨Nat.le_of_ble_eq_true rfl, Nat.le_of_ble_eq_true rfl⟩ dX10_undo_8 (fun H locs hw => ?_)
  obtain ⟨hz, hok⟩ := gOk_chk hok
  cases gOk_some hok
  exact g_zret fx hw hr hz dX10_undo_11
theorem dX10_image_0 : decode cX10_image 0 = .ok (.aload_n 0, 1) := by decide +kernel
theorem dX10_image_1 : decode cX10_image 1 = .ok (.getfield 42, 3) := by decide +kernel
theorem dX10_image_4 : decode cX10_image 4 = .ok (.aload_n 0, 1) := by decide +kernel
theorem dX10_image_5 : decode cX10_image 5 = .ok (.getfield 70, 3) := by decide +kernel
theorem dX10_image_8 : decode cX10_image 8 = .ok (.invokevirtual 90, 3) := by decide +kernel
theorem dX10_image_11 : decode cX10_image 11 = .ok (.aload_n 0, 1) := by decide +kernel
theorem dX10_image_12 : decode cX10_image 12 = .ok (.getfield 49, 3) := by decide +kernel
theorem dX10_image_15 : decode cX10_image 15 = .ok (.aload_n 0, 1) := by decide +kernel
theorem dX10_image_16 : decode cX10_image 16 = .ok (.getfield 76, 3) := by decide +kernel
theorem dX10_image_19 : decode cX10_image 19 = .ok (.invokevirtual 429, 3) := by decide +kernel
theorem dX10_image_22 : decode cX10_image 22 = .ok (.aload_n 0, 1) := by decide +kernel
theorem dX10_image_23 : decode cX10_image 23 = .ok (.iconst 1, 1) := by decide +kernel
theorem dX10_image_24 : decode cX10_image 24 = .ok (.putfield 432, 3) := by decide +kernel
theorem dX10_image_27 : decode cX10_image 27 = .ok (.return_, 1) := by decide +kernel
theorem lf_RX10_42 : gLf RX10 42 10 4 := ⟨(RX10, TX10, 15), rfl, by decide, wA_t (wt2 (List.mem_of_getElem? (i := 130) (by decide +kernel))) (by decide +kernel), rfl⟩
theorem lf_RX10_49 : gLf RX10 49 10 5 := ⟨(RX10, TX10, 15), rfl, by decide, wA_t (wt2 (List.mem_of_getElem? (i := 131) (by decide +kernel))) (by decide +kernel), rfl⟩
theorem lv_RX10_429 : gLv RX10 429 RX1 yX1_become cX1_become 2 none 1 := gLv_of (wA_t (wt3 (List.mem_of_getElem? (i := 123) (by decide +kernel))) (by decide +kernel)) (wA_t (wt3 (List.mem_of_getElem? (i := 124) (by decide +kernel))) (by decide +kernel)) (wA_t (wt3 (List.mem_of_getElem? (i := 125) (by decide +kernel))) (by decide +kernel)) (wA_t (wt1 (List.mem_of_getElem? (i := 11) (by decide +kernel))) (by decide +kernel)) (wA_t (wt3 (List.mem_of_getElem? (i := 126) (by decide +kernel))) (by decide +kernel)) ⟨rfl, by decide +kernel, by decide +kernel, by decide +kernel⟩
theorem lp_RX10_432 : gLp RX10 432 10 14 := ⟨(RX10, TX10, 15), rfl, by decide, wA_t (wt2 (List.mem_of_getElem? (i := 140) (by decide +kernel))) (by decide +kernel), rfl, rfl⟩
def rm_X10_image : Room := { frames := 3, cells := 0, slots := 0, locals := 83 }
def f_X10_image (τ : gτ) (n : Nat) (x0 : Nat) (G : gG) : Option (gG) :=
  (gr G 10 4 x0).bind fun a1 =>
  (gr G 10 10 x0).bind fun a2 =>
  (f_X6_become τ n a1 a2 G).bind fun G3 =>
  (gr G3 10 5 x0).bind fun a4 =>
  (gr G3 10 12 x0).bind fun a5 =>
  (f_X1_become τ a4 a5 G3).bind fun G6 =>
  gLet (gsi G6 10 14 x0 (1 : Int32)) fun G7 =>
  some G7
set_option maxHeartbeats 4000000 in
set_option maxRecDepth 100000 in
theorem c_X10_image (l : Launch) (X : gX) (τ : gτ) (n : Nat) (x0 : Nat) (G : gG) (h0 : gK τ x0 10) {G' : gG} (h : f_X10_image τ n x0 G = some G') : gM l X τ yX10_image cX10_image 1 none rm_X10_image [.ref x0] G none G' := by
  refine g_body (by decide +kernel) (Nat.le_of_ble_eq_true rfl) ?_
  intro p e s m args below meth c ls fx hr hw hl
  have fx : gFx X p s m args meth c cX10_image 1 RX10 := fx
  have hl : lv_has ls 1 [(0, .ref x0)] := hl
  have hok : gOk (f_X10_image τ n x0 G) (fun q => q = G') := ⟨_, h, rfl⟩
  unfold f_X10_image at hok
  show W p l e rm_X10_image s m args below meth c s.heap [] 0 0 (MQ below (gQ X τ none G') args s 0 0 (gFree X)) _
  refine lv_aload_n fx.1 fx.2.1 dX10_image_0 rfl (lv_at hl 0 rfl) ?_
  refine g_getr fx hw h0 lf_RX10_42 rfl dX10_image_1 hok (fun a1 h_a1 hok => ?_)
  refine lv_aload_n fx.1 fx.2.1 dX10_image_4 rfl (lv_at hl 0 rfl) ?_
  refine g_getr fx hw h0 lf_RX10_70 rfl dX10_image_5 hok (fun a2 h_a2 hok => ?_)
  obtain ⟨G3, hf, hok⟩ := gOk_bind hok
  refine g_callV0 (κ := 6) fx hw (c_X6_become l X τ n a1 a2 G h_a1 h_a2 hf) lv_RX10_90 ⟨rfl, rfl⟩ rfl rfl h_a1 rfl hl.1 rfl ⟨Nat.le_of_ble_eq_true rfl, Nat.le_of_ble_eq_true rfl⟩ (Nat.le_of_ble_eq_true rfl) ⟨Nat.le_of_ble_eq_true rfl, Nat.le_of_ble_eq_true rfl⟩ dX10_image_8 (fun H locs hw => ?_)
  refine lv_aload_n fx.1 fx.2.1 dX10_image_11 rfl (lv_at hl 0 rfl) ?_
  refine g_getr fx hw h0 lf_RX10_49 rfl dX10_image_12 hok (fun a4 h_a4 hok => ?_)
  refine lv_aload_n fx.1 fx.2.1 dX10_image_15 rfl (lv_at hl 0 rfl) ?_
  refine g_getr fx hw h0 lf_RX10_76 rfl dX10_image_16 hok (fun a5 h_a5 hok => ?_)
  obtain ⟨G6, hf, hok⟩ := gOk_bind hok
  refine g_callV0 (κ := 1) fx hw (c_X1_become l X τ a4 a5 G3 h_a4 h_a5 hf) lv_RX10_429 ⟨rfl, rfl⟩ rfl rfl h_a4 rfl hl.1 rfl ⟨Nat.le_of_ble_eq_true rfl, Nat.le_of_ble_eq_true rfl⟩ (Nat.le_of_ble_eq_true rfl) ⟨Nat.le_of_ble_eq_true rfl, Nat.le_of_ble_eq_true rfl⟩ dX10_image_19 (fun H locs hw => ?_)
  refine lv_aload_n fx.1 fx.2.1 dX10_image_22 rfl (lv_at hl 0 rfl) ?_
  refine lv_iconst (v := 1) fx.1 fx.2.1 dX10_image_23 (by decide) ?_
  refine g_putz fx hw h0 lp_RX10_432 rfl rfl (by decide) dX10_image_24 hok (fun G7 H locs hw hok => ?_)
  cases gOk_some hok
  exact g_vret fx hw hr dX10_image_27
theorem dX10_back_0 : decode cX10_back 0 = .ok (.aload_n 0, 1) := by decide +kernel
theorem dX10_back_1 : decode cX10_back 1 = .ok (.getfield 432, 3) := by decide +kernel
theorem dX10_back_4 : decode cX10_back 4 = .ok (.ifCond .ne 5, 3) := by decide +kernel
theorem dX10_back_7 : decode cX10_back 7 = .ok (.iconst 0, 1) := by decide +kernel
theorem dX10_back_8 : decode cX10_back 8 = .ok (.ireturn, 1) := by decide +kernel
theorem dX10_back_9 : decode cX10_back 9 = .ok (.aload_n 0, 1) := by decide +kernel
theorem dX10_back_10 : decode cX10_back 10 = .ok (.getfield 70, 3) := by decide +kernel
theorem dX10_back_13 : decode cX10_back 13 = .ok (.aload_n 0, 1) := by decide +kernel
theorem dX10_back_14 : decode cX10_back 14 = .ok (.getfield 42, 3) := by decide +kernel
theorem dX10_back_17 : decode cX10_back 17 = .ok (.invokevirtual 90, 3) := by decide +kernel
theorem dX10_back_20 : decode cX10_back 20 = .ok (.aload_n 0, 1) := by decide +kernel
theorem dX10_back_21 : decode cX10_back 21 = .ok (.getfield 76, 3) := by decide +kernel
theorem dX10_back_24 : decode cX10_back 24 = .ok (.aload_n 0, 1) := by decide +kernel
theorem dX10_back_25 : decode cX10_back 25 = .ok (.getfield 49, 3) := by decide +kernel
theorem dX10_back_28 : decode cX10_back 28 = .ok (.invokevirtual 429, 3) := by decide +kernel
theorem dX10_back_31 : decode cX10_back 31 = .ok (.aload_n 0, 1) := by decide +kernel
theorem dX10_back_32 : decode cX10_back 32 = .ok (.getfield 35, 3) := by decide +kernel
theorem dX10_back_35 : decode cX10_back 35 = .ok (.invokevirtual 113, 3) := by decide +kernel
theorem dX10_back_38 : decode cX10_back 38 = .ok (.iconst 1, 1) := by decide +kernel
theorem dX10_back_39 : decode cX10_back 39 = .ok (.ireturn, 1) := by decide +kernel
theorem lf_RX10_432 : gLf RX10 432 10 14 := ⟨(RX10, TX10, 15), rfl, by decide, wA_t (wt2 (List.mem_of_getElem? (i := 140) (by decide +kernel))) (by decide +kernel), rfl⟩
def rm_X10_back : Room := { frames := 3, cells := 0, slots := 0, locals := 83 }
def f_X10_back (τ : gτ) (n : Nat) (x0 : Nat) (G : gG) : Option (Int32 × gG) :=
  if (gi G 10 14 x0) = 0 then (some (0, G))
  else ((gr G 10 10 x0).bind fun a1 =>
  (gr G 10 4 x0).bind fun a2 =>
  (f_X6_become τ n a1 a2 G).bind fun G3 =>
  (gr G3 10 12 x0).bind fun a4 =>
  (gr G3 10 5 x0).bind fun a5 =>
  (f_X1_become τ a4 a5 G3).bind fun G6 =>
  (gr G6 10 3 x0).bind fun a7 =>
  (f_X3_forget a7 G6).bind fun G8 =>
  some (1, G8))
set_option maxHeartbeats 4000000 in
set_option maxRecDepth 100000 in
theorem c_X10_back (l : Launch) (X : gX) (τ : gτ) (n : Nat) (x0 : Nat) (G : gG) (h0 : gK τ x0 10) {r : Int32} {G' : gG} (h : f_X10_back τ n x0 G = some (r, G')) : gM l X τ yX10_back cX10_back 1 (some .boolean) rm_X10_back [.ref x0] G (some (.int r)) G' := by
  refine g_body (by decide +kernel) (Nat.le_of_ble_eq_true rfl) ?_
  intro p e s m args below meth c ls fx hr hw hl
  have fx : gFx X p s m args meth c cX10_back 1 RX10 := fx
  have hl : lv_has ls 1 [(0, .ref x0)] := hl
  have hok : gOk (f_X10_back τ n x0 G) (fun q => q = (r, G')) := ⟨_, h, rfl⟩
  unfold f_X10_back at hok
  show W p l e rm_X10_back s m args below meth c s.heap [] 0 0 (MQ below (gQ X τ (some (.int r)) G') args s 0 0 (gFree X)) _
  refine lv_aload_n fx.1 fx.2.1 dX10_back_0 rfl (lv_at hl 0 rfl) ?_
  refine g_geti fx hw h0 lf_RX10_432 rfl dX10_back_1 ?_
  refine g_if_ne (tgt := 9) fx dX10_back_4 (by decide) hok (fun hok => ?_) (fun hok => ?_)
  · refine lv_iconst (v := 0) fx.1 fx.2.1 dX10_back_7 (by decide) ?_
    cases gOk_some hok
    exact g_zret fx hw hr (by decide) dX10_back_8
  · refine lv_aload_n fx.1 fx.2.1 dX10_back_9 rfl (lv_at hl 0 rfl) ?_
    refine g_getr fx hw h0 lf_RX10_70 rfl dX10_back_10 hok (fun a1 h_a1 hok => ?_)
    refine lv_aload_n fx.1 fx.2.1 dX10_back_13 rfl (lv_at hl 0 rfl) ?_
    refine g_getr fx hw h0 lf_RX10_42 rfl dX10_back_14 hok (fun a2 h_a2 hok => ?_)
    obtain ⟨G3, hf, hok⟩ := gOk_bind hok
    refine g_callV0 (κ := 6) fx hw (c_X6_become l X τ n a1 a2 G h_a1 h_a2 hf) lv_RX10_90 ⟨rfl, rfl⟩ rfl rfl h_a1 rfl hl.1 rfl ⟨Nat.le_of_ble_eq_true rfl, Nat.le_of_ble_eq_true rfl⟩ (Nat.le_of_ble_eq_true rfl) ⟨Nat.le_of_ble_eq_true rfl, Nat.le_of_ble_eq_true rfl⟩ dX10_back_17 (fun H locs hw => ?_)
    refine lv_aload_n fx.1 fx.2.1 dX10_back_20 rfl (lv_at hl 0 rfl) ?_
    refine g_getr fx hw h0 lf_RX10_76 rfl dX10_back_21 hok (fun a4 h_a4 hok => ?_)
    refine lv_aload_n fx.1 fx.2.1 dX10_back_24 rfl (lv_at hl 0 rfl) ?_
    refine g_getr fx hw h0 lf_RX10_49 rfl dX10_back_25 hok (fun a5 h_a5 hok => ?_)
    obtain ⟨G6, hf, hok⟩ := gOk_bind hok
    refine g_callV0 (κ := 1) fx hw (c_X1_become l X τ a4 a5 G3 h_a4 h_a5 hf) lv_RX10_429 ⟨rfl, rfl⟩ rfl rfl h_a4 rfl hl.1 rfl ⟨Nat.le_of_ble_eq_true rfl, Nat.le_of_ble_eq_true rfl⟩ (Nat.le_of_ble_eq_true rfl) ⟨Nat.le_of_ble_eq_true rfl, Nat.le_of_ble_eq_true rfl⟩ dX10_back_28 (fun H locs hw => ?_)
    refine lv_aload_n fx.1 fx.2.1 dX10_back_31 rfl (lv_at hl 0 rfl) ?_
    refine g_getr fx hw h0 lf_RX10_35 rfl dX10_back_32 hok (fun a7 h_a7 hok => ?_)
    obtain ⟨G8, hf, hok⟩ := gOk_bind hok
    refine g_callV0 (κ := 3) fx hw (c_X3_forget l X τ a7 G6 h_a7 hf) lv_RX10_113 ⟨rfl, rfl⟩ rfl rfl h_a7 rfl hl.1 rfl ⟨Nat.le_of_ble_eq_true rfl, Nat.le_of_ble_eq_true rfl⟩ (Nat.le_of_ble_eq_true rfl) ⟨Nat.le_of_ble_eq_true rfl, Nat.le_of_ble_eq_true rfl⟩ dX10_back_35 (fun H locs hw => ?_)
    refine lv_iconst (v := 1) fx.1 fx.2.1 dX10_back_38 (by decide) ?_
    cases gOk_some hok
    exact g_zret fx hw hr (by decide) dX10_back_39
theorem dX10_count_0 : decode cX10_count 0 = .ok (.iload_n 1, 1) := by decide +kernel
theorem dX10_count_1 : decode cX10_count 1 = .ok (.tableswitch 212 0 14 #[75, 83, 91, 99, 107, 129, 137, 145, 153, 161, 169, 177, 185, 193, 204], 75) := by decide +kernel
theorem dX10_count_76 : decode cX10_count 76 = .ok (.aload_n 0, 1) := by decide +kernel
theorem dX10_count_77 : decode cX10_count 77 = .ok (.getfield 70, 3) := by decide +kernel
theorem dX10_count_80 : decode cX10_count 80 = .ok (.getfield 296, 3) := by decide +kernel
theorem dX10_count_83 : decode cX10_count 83 = .ok (.ireturn, 1) := by decide +kernel
theorem dX10_count_84 : decode cX10_count 84 = .ok (.aload_n 0, 1) := by decide +kernel
theorem dX10_count_85 : decode cX10_count 85 = .ok (.getfield 70, 3) := by decide +kernel
theorem dX10_count_88 : decode cX10_count 88 = .ok (.getfield 286, 3) := by decide +kernel
theorem dX10_count_91 : decode cX10_count 91 = .ok (.ireturn, 1) := by decide +kernel
theorem dX10_count_92 : decode cX10_count 92 = .ok (.aload_n 0, 1) := by decide +kernel
theorem dX10_count_93 : decode cX10_count 93 = .ok (.getfield 70, 3) := by decide +kernel
theorem dX10_count_96 : decode cX10_count 96 = .ok (.getfield 332, 3) := by decide +kernel
theorem dX10_count_99 : decode cX10_count 99 = .ok (.ireturn, 1) := by decide +kernel
theorem dX10_count_100 : decode cX10_count 100 = .ok (.aload_n 0, 1) := by decide +kernel
theorem dX10_count_101 : decode cX10_count 101 = .ok (.getfield 70, 3) := by decide +kernel
theorem dX10_count_104 : decode cX10_count 104 = .ok (.getfield 105, 3) := by decide +kernel
theorem dX10_count_107 : decode cX10_count 107 = .ok (.ireturn, 1) := by decide +kernel
theorem dX10_count_108 : decode cX10_count 108 = .ok (.aload_n 0, 1) := by decide +kernel
theorem dX10_count_109 : decode cX10_count 109 = .ok (.getfield 76, 3) := by decide +kernel
theorem dX10_count_112 : decode cX10_count 112 = .ok (.getfield 435, 3) := by decide +kernel
theorem dX10_count_115 : decode cX10_count 115 = .ok (.ifCond .eq 13, 3) := by decide +kernel
theorem dX10_count_118 : decode cX10_count 118 = .ok (.aload_n 0, 1) := by decide +kernel
theorem dX10_count_119 : decode cX10_count 119 = .ok (.getfield 76, 3) := by decide +kernel
theorem dX10_count_122 : decode cX10_count 122 = .ok (.getfield 121, 3) := by decide +kernel
theorem dX10_count_125 : decode cX10_count 125 = .ok (.goto 4, 3) := by decide +kernel
theorem dX10_count_128 : decode cX10_count 128 = .ok (.iconst (-1), 1) := by decide +kernel
theorem dX10_count_129 : decode cX10_count 129 = .ok (.ireturn, 1) := by decide +kernel
theorem dX10_count_130 : decode cX10_count 130 = .ok (.aload_n 0, 1) := by decide +kernel
theorem dX10_count_131 : decode cX10_count 131 = .ok (.getfield 70, 3) := by decide +kernel
theorem dX10_count_134 : decode cX10_count 134 = .ok (.getfield 438, 3) := by decide +kernel
theorem dX10_count_137 : decode cX10_count 137 = .ok (.ireturn, 1) := by decide +kernel
theorem dX10_count_138 : decode cX10_count 138 = .ok (.aload_n 0, 1) := by decide +kernel
theorem dX10_count_139 : decode cX10_count 139 = .ok (.getfield 70, 3) := by decide +kernel
theorem dX10_count_142 : decode cX10_count 142 = .ok (.getfield 441, 3) := by decide +kernel
theorem dX10_count_145 : decode cX10_count 145 = .ok (.ireturn, 1) := by decide +kernel
theorem dX10_count_146 : decode cX10_count 146 = .ok (.aload_n 0, 1) := by decide +kernel
theorem dX10_count_147 : decode cX10_count 147 = .ok (.getfield 70, 3) := by decide +kernel
theorem dX10_count_150 : decode cX10_count 150 = .ok (.getfield 444, 3) := by decide +kernel
theorem dX10_count_153 : decode cX10_count 153 = .ok (.ireturn, 1) := by decide +kernel
theorem dX10_count_154 : decode cX10_count 154 = .ok (.aload_n 0, 1) := by decide +kernel
theorem dX10_count_155 : decode cX10_count 155 = .ok (.getfield 70, 3) := by decide +kernel
theorem dX10_count_158 : decode cX10_count 158 = .ok (.invokevirtual 388, 3) := by decide +kernel
theorem dX10_count_161 : decode cX10_count 161 = .ok (.ireturn, 1) := by decide +kernel
theorem dX10_count_162 : decode cX10_count 162 = .ok (.aload_n 0, 1) := by decide +kernel
theorem dX10_count_163 : decode cX10_count 163 = .ok (.getfield 70, 3) := by decide +kernel
theorem dX10_count_166 : decode cX10_count 166 = .ok (.getfield 400, 3) := by decide +kernel
theorem dX10_count_169 : decode cX10_count 169 = .ok (.ireturn, 1) := by decide +kernel
theorem dX10_count_170 : decode cX10_count 170 = .ok (.aload_n 0, 1) := by decide +kernel
theorem dX10_count_171 : decode cX10_count 171 = .ok (.getfield 70, 3) := by decide +kernel
theorem dX10_count_174 : decode cX10_count 174 = .ok (.getfield 289, 3) := by decide +kernel
theorem dX10_count_177 : decode cX10_count 177 = .ok (.ireturn, 1) := by decide +kernel
theorem dX10_count_178 : decode cX10_count 178 = .ok (.aload_n 0, 1) := by decide +kernel
theorem dX10_count_179 : decode cX10_count 179 = .ok (.getfield 70, 3) := by decide +kernel
theorem dX10_count_182 : decode cX10_count 182 = .ok (.getfield 277, 3) := by decide +kernel
theorem dX10_count_185 : decode cX10_count 185 = .ok (.ireturn, 1) := by decide +kernel
theorem dX10_count_186 : decode cX10_count 186 = .ok (.aload_n 0, 1) := by decide +kernel
theorem dX10_count_187 : decode cX10_count 187 = .ok (.getfield 70, 3) := by decide +kernel
theorem dX10_count_190 : decode cX10_count 190 = .ok (.invokevirtual 391, 3) := by decide +kernel
theorem dX10_count_193 : decode cX10_count 193 = .ok (.ireturn, 1) := by decide +kernel
theorem dX10_count_194 : decode cX10_count 194 = .ok (.aload_n 0, 1) := by decide +kernel
theorem dX10_count_195 : decode cX10_count 195 = .ok (.getfield 70, 3) := by decide +kernel
theorem dX10_count_198 : decode cX10_count 198 = .ok (.getfield 409, 3) := by decide +kernel
theorem dX10_count_201 : decode cX10_count 201 = .ok (.getfield 447, 3) := by decide +kernel
theorem dX10_count_204 : decode cX10_count 204 = .ok (.ireturn, 1) := by decide +kernel
theorem dX10_count_205 : decode cX10_count 205 = .ok (.aload_n 0, 1) := by decide +kernel
theorem dX10_count_206 : decode cX10_count 206 = .ok (.getfield 35, 3) := by decide +kernel
theorem dX10_count_209 : decode cX10_count 209 = .ok (.getfield 450, 3) := by decide +kernel
theorem dX10_count_212 : decode cX10_count 212 = .ok (.ireturn, 1) := by decide +kernel
theorem dX10_count_213 : decode cX10_count 213 = .ok (.iconst (-1), 1) := by decide +kernel
theorem dX10_count_214 : decode cX10_count 214 = .ok (.ireturn, 1) := by decide +kernel
theorem lf_RX10_435 : gLf RX10 435 1 8 := ⟨(RX1, TX1, 9), rfl, by decide, wA_t (wt2 (List.mem_of_getElem? (i := 104) (by decide +kernel))) (by decide +kernel), rfl⟩
theorem lf_RX10_438 : gLf RX10 438 6 10 := ⟨(RX6, TX6, 15), rfl, by decide, wA_t (wt2 (List.mem_of_getElem? (i := 34) (by decide +kernel))) (by decide +kernel), rfl⟩
theorem lf_RX10_441 : gLf RX10 441 6 8 := ⟨(RX6, TX6, 15), rfl, by decide, wA_t (wt2 (List.mem_of_getElem? (i := 29) (by decide +kernel))) (by decide +kernel), rfl⟩
theorem lf_RX10_444 : gLf RX10 444 6 9 := ⟨(RX6, TX6, 15), rfl, by decide, wA_t (wt2 (List.mem_of_getElem? (i := 32) (by decide +kernel))) (by decide +kernel), rfl⟩
theorem lf_RX10_447 : gLf RX10 447 0 1 := ⟨(RX0, TX0, 3), rfl, by decide, wA_t (wt1 (List.mem_of_getElem? (i := 119) (by decide +kernel))) (by decide +kernel), rfl⟩
theorem lf_RX10_450 : gLf RX10 450 3 1 := ⟨(RX3, TX3, 3), rfl, by decide, wA_t (wt2 (List.mem_of_getElem? (i := 76) (by decide +kernel))) (by decide +kernel), rfl⟩
def rm_X10_count : Room := { frames := 1, cells := 0, slots := 0, locals := 22 }
def f_X10_count (τ : gτ) (n : Nat) (x0 : Nat) (x1 : Int32) (G : gG) : Option (Int32) :=
  if x1 = 0 then ((gr G 10 10 x0).bind fun a1 =>
  some (gi G 6 4 a1))
  else if x1 = 1 then ((gr G 10 10 x0).bind fun a2 =>
  some (gi G 6 5 a2))
  else if x1 = 2 then ((gr G 10 10 x0).bind fun a3 =>
  some (gi G 6 6 a3))
  else if x1 = 3 then ((gr G 10 10 x0).bind fun a4 =>
  some (gi G 6 7 a4))
  else if x1 = 4 then ((gr G 10 12 x0).bind fun a5 =>
  if (gi G 1 8 a5) = 0 then (some ((-1)))
  else ((gr G 10 12 x0).bind fun a6 =>
  some (gi G 1 6 a6)))
  else if x1 = 5 then ((gr G 10 10 x0).bind fun a7 =>
  some (gi G 6 10 a7))
  else if x1 = 6 then ((gr G 10 10 x0).bind fun a8 =>
  some (gi G 6 8 a8))
  else if x1 = 7 then ((gr G 10 10 x0).bind fun a9 =>
  some (gi G 6 9 a9))
  else if x1 = 8 then ((gr G 10 10 x0).bind fun a10 =>
  (f_X6_hangingLoads τ n a10 G).bind fun v11 =>
  some (v11))
  else if x1 = 9 then ((gr G 10 10 x0).bind fun a12 =>
  some (gi G 6 13 a12))
  else if x1 = 10 then ((gr G 10 10 x0).bind fun a13 =>
  some (gi G 6 14 a13))
  else if x1 = 11 then ((gr G 10 10 x0).bind fun a14 =>
  some (gi G 6 12 a14))
  else if x1 = 12 then ((gr G 10 10 x0).bind fun a15 =>
  (f_X6_brokenRopes τ n a15 G).bind fun v16 =>
  some (v16))
  else if x1 = 13 then ((gr G 10 10 x0).bind fun a17 =>
  (gr G 6 3 a17).bind fun a18 =>
  some (gi G 0 1 a18))
  else if x1 = 14 then ((gr G 10 3 x0).bind fun a19 =>
  some (gi G 3 1 a19))
  else (some ((-1)))
set_option maxHeartbeats 4000000 in
set_option maxRecDepth 100000 in
theorem c_X10_count (l : Launch) (X : gX) (τ : gτ) (n : Nat) (x0 : Nat) (x1 : Int32) (G : gG) (h0 : gK τ x0 10) {r : Int32}  (h : f_X10_count τ n x0 x1 G = some r) : gM l X τ yX10_count cX10_count 2 (some .int) rm_X10_count [.ref x0, .int x1] G (some (.int r)) G := by
  refine g_body (by decide +kernel) (Nat.le_of_ble_eq_true rfl) ?_
  intro p e s m args below meth c ls fx hr hw hl
  have fx : gFx X p s m args meth c cX10_count 2 RX10 := fx
  have hl : lv_has ls 2 [(0, .ref x0), (1, .int x1)] := hl
  have hok : gOk (f_X10_count τ n x0 x1 G) (fun q => q = r) := ⟨_, h, rfl⟩
  unfold f_X10_count at hok
  show W p l e rm_X10_count s m args below meth c s.heap [] 0 0 (MQ below (gQ X τ (some (.int r)) G) args s 0 0 (gFree X)) _
  refine lv_iload_n fx.1 fx.2.1 dX10_count_0 rfl (lv_at hl 1 rfl) ?_
  by_cases hc0 : x1 = 0
  · have hok := gOk_t hok hc0
    refine lv_tableIn (tgt := 76) fx.1 fx.2.1 dX10_count_1 (by rw [hc0]; decide) (by rw [hc0]; decide) (by rw [hc0]; rfl) (by decide) ?_
    refine lv_aload_n fx.1 fx.2.1 dX10_count_76 rfl (lv_at hl 0 rfl) ?_
    refine g_getr fx hw h0 lf_RX10_70 rfl dX10_count_77 hok (fun a1 h_a1 hok => ?_)
    refine g_geti fx hw h_a1 lf_RX10_296 rfl dX10_count_80 ?_
    cases gOk_some hok
    exact g_iret fx hw hr dX10_count_83
  have hok := gOk_f hok hc0
  by_cases hc1 : x1 = 1
  · have hok := gOk_t hok hc1
    refine lv_tableIn (tgt := 84) fx.1 fx.2.1 dX10_count_1 (by rw [hc1]; decide) (by rw [hc1]; decide) (by rw [hc1]; rfl) (by decide) ?_
    refine lv_aload_n fx.1 fx.2.1 dX10_count_84 rfl (lv_at hl 0 rfl) ?_
    refine g_getr fx hw h0 lf_RX10_70 rfl dX10_count_85 hok (fun a2 h_a2 hok => ?_)
    refine g_geti fx hw h_a2 lf_RX10_286 rfl dX10_count_88 ?_
    cases gOk_some hok
    exact g_iret fx hw hr dX10_count_91
  have hok := gOk_f hok hc1
  by_cases hc2 : x1 = 2
  · have hok := gOk_t hok hc2
    refine lv_tableIn (tgt := 92) fx.1 fx.2.1 dX10_count_1 (by rw [hc2]; decide) (by rw [hc2]; decide) (by rw [hc2]; rfl) (by decide) ?_
    refine lv_aload_n fx.1 fx.2.1 dX10_count_92 rfl (lv_at hl 0 rfl) ?_
    refine g_getr fx hw h0 lf_RX10_70 rfl dX10_count_93 hok (fun a3 h_a3 hok => ?_)
    refine g_geti fx hw h_a3 lf_RX10_332 rfl dX10_count_96 ?_
    cases gOk_some hok
    exact g_iret fx hw hr dX10_count_99
  have hok := gOk_f hok hc2
  by_cases hc3 : x1 = 3
  · have hok := gOk_t hok hc3
    refine lv_tableIn (tgt := 100) fx.1 fx.2.1 dX10_count_1 (by rw [hc3]; decide) (by rw [hc3]; decide) (by rw [hc3]; rfl) (by decide) ?_
    refine lv_aload_n fx.1 fx.2.1 dX10_count_100 rfl (lv_at hl 0 rfl) ?_
    refine g_getr fx hw h0 lf_RX10_70 rfl dX10_count_101 hok (fun a4 h_a4 hok => ?_)
    refine g_geti fx hw h_a4 lf_RX10_105 rfl dX10_count_104 ?_
    cases gOk_some hok
    exact g_iret fx hw hr dX10_count_107
  have hok := gOk_f hok hc3
  by_cases hc4 : x1 = 4
  · have hok := gOk_t hok hc4
    refine lv_tableIn (tgt := 108) fx.1 fx.2.1 dX10_count_1 (by rw [hc4]; decide) (by rw [hc4]; decide) (by rw [hc4]; rfl) (by decide) ?_
    refine lv_aload_n fx.1 fx.2.1 dX10_count_108 rfl (lv_at hl 0 rfl) ?_
    refine g_getr fx hw h0 lf_RX10_76 rfl dX10_count_109 hok (fun a5 h_a5 hok => ?_)
    refine g_geti fx hw h_a5 lf_RX10_435 rfl dX10_count_112 ?_
    refine g_if_eq (tgt := 128) fx dX10_count_115 (by decide) hok (fun hok => ?_) (fun hok => ?_)
    · refine lv_iconst (v := (-1)) fx.1 fx.2.1 dX10_count_128 (by decide) ?_
      cases gOk_some hok
      exact g_iret fx hw hr dX10_count_129
    · refine lv_aload_n fx.1 fx.2.1 dX10_count_118 rfl (lv_at hl 0 rfl) ?_
      refine g_getr fx hw h0 lf_RX10_76 rfl dX10_count_119 hok (fun a6 h_a6 hok => ?_)
      refine g_geti fx hw h_a6 lf_RX10_121 rfl dX10_count_122 ?_
      refine lv_goto (tgt := 129) fx.1 fx.2.1 dX10_count_125 (by decide) ?_
      cases gOk_some hok
      exact g_iret fx hw hr dX10_count_129
  have hok := gOk_f hok hc4
  by_cases hc5 : x1 = 5
  · have hok := gOk_t hok hc5
    refine lv_tableIn (tgt := 130) fx.1 fx.2.1 dX10_count_1 (by rw [hc5]; decide) (by rw [hc5]; decide) (by rw [hc5]; rfl) (by decide) ?_
    refine lv_aload_n fx.1 fx.2.1 dX10_count_130 rfl (lv_at hl 0 rfl) ?_
    refine g_getr fx hw h0 lf_RX10_70 rfl dX10_count_131 hok (fun a7 h_a7 hok => ?_)
    refine g_geti fx hw h_a7 lf_RX10_438 rfl dX10_count_134 ?_
    cases gOk_some hok
    exact g_iret fx hw hr dX10_count_137
  have hok := gOk_f hok hc5
  by_cases hc6 : x1 = 6
  · have hok := gOk_t hok hc6
    refine lv_tableIn (tgt := 138) fx.1 fx.2.1 dX10_count_1 (by rw [hc6]; decide) (by rw [hc6]; decide) (by rw [hc6]; rfl) (by decide) ?_
    refine lv_aload_n fx.1 fx.2.1 dX10_count_138 rfl (lv_at hl 0 rfl) ?_
    refine g_getr fx hw h0 lf_RX10_70 rfl dX10_count_139 hok (fun a8 h_a8 hok => ?_)
    refine g_geti fx hw h_a8 lf_RX10_441 rfl dX10_count_142 ?_
    cases gOk_some hok
    exact g_iret fx hw hr dX10_count_145
  have hok := gOk_f hok hc6
  by_cases hc7 : x1 = 7
  · have hok := gOk_t hok hc7
    refine lv_tableIn (tgt := 146) fx.1 fx.2.1 dX10_count_1 (by rw [hc7]; decide) (by rw [hc7]; decide) (by rw [hc7]; rfl) (by decide) ?_
    refine lv_aload_n fx.1 fx.2.1 dX10_count_146 rfl (lv_at hl 0 rfl) ?_
    refine g_getr fx hw h0 lf_RX10_70 rfl dX10_count_147 hok (fun a9 h_a9 hok => ?_)
    refine g_geti fx hw h_a9 lf_RX10_444 rfl dX10_count_150 ?_
    cases gOk_some hok
    exact g_iret fx hw hr dX10_count_153
  have hok := gOk_f hok hc7
  by_cases hc8 : x1 = 8
  · have hok := gOk_t hok hc8
    refine lv_tableIn (tgt := 154) fx.1 fx.2.1 dX10_count_1 (by rw [hc8]; decide) (by rw [hc8]; decide) (by rw [hc8]; rfl) (by decide) ?_
    refine lv_aload_n fx.1 fx.2.1 dX10_count_154 rfl (lv_at hl 0 rfl) ?_
    refine g_getr fx hw h0 lf_RX10_70 rfl dX10_count_155 hok (fun a10 h_a10 hok => ?_)
    obtain ⟨v11, hf, hok⟩ := gOk_bind hok
    refine g_callV0 (κ := 6) fx hw (c_X6_hangingLoads l X τ n a10 G h_a10 hf) lv_RX10_388 ⟨rfl, rfl⟩ rfl rfl h_a10 rfl hl.1 rfl ⟨Nat.le_of_ble_eq_true rfl, Nat.le_of_ble_eq_true rfl⟩ (Nat.le_of_ble_eq_true rfl) ⟨Nat.le_of_ble_eq_true rfl, Nat.le_of_ble_eq_true rfl⟩ dX10_count_158 (fun H locs hw => ?_)
    cases gOk_some hok
    exact g_iret fx hw hr dX10_count_161
  have hok := gOk_f hok hc8
  by_cases hc9 : x1 = 9
  · have hok := gOk_t hok hc9
    refine lv_tableIn (tgt := 162) fx.1 fx.2.1 dX10_count_1 (by rw [hc9]; decide) (by rw [hc9]; decide) (by rw [hc9]; rfl) (by decide) ?_
    refine lv_aload_n fx.1 fx.2.1 dX10_count_162 rfl (lv_at hl 0 rfl) ?_
    refine g_getr fx hw h0 lf_RX10_70 rfl dX10_count_163 hok (fun a12 h_a12 hok => ?_)
    refine g_geti fx hw h_a12 lf_RX10_400 rfl dX10_count_166 ?_
    cases gOk_some hok
    exact g_iret fx hw hr dX10_count_169
  have hok := gOk_f hok hc9
  by_cases hc10 : x1 = 10
  · have hok := gOk_t hok hc10
    refine lv_tableIn (tgt := 170) fx.1 fx.2.1 dX10_count_1 (by rw [hc10]; decide) (by rw [hc10]; decide) (by rw [hc10]; rfl) (by decide) ?_
    refine lv_aload_n fx.1 fx.2.1 dX10_count_170 rfl (lv_at hl 0 rfl) ?_
    refine g_getr fx hw h0 lf_RX10_70 rfl dX10_count_171 hok (fun a13 h_a13 hok => ?_)
    refine g_geti fx hw h_a13 lf_RX10_289 rfl dX10_count_174 ?_
    cases gOk_some hok
    exact g_iret fx hw hr dX10_count_177
  have hok := gOk_f hok hc10
  by_cases hc11 : x1 = 11
  · have hok := gOk_t hok hc11
    refine lv_tableIn (tgt := 178) fx.1 fx.2.1 dX10_count_1 (by rw [hc11]; decide) (by rw [hc11]; decide) (by rw [hc11]; rfl) (by decide) ?_
    refine lv_aload_n fx.1 fx.2.1 dX10_count_178 rfl (lv_at hl 0 rfl) ?_
    refine g_getr fx hw h0 lf_RX10_70 rfl dX10_count_179 hok (fun a14 h_a14 hok => ?_)
    refine g_geti fx hw h_a14 lf_RX10_277 rfl dX10_count_182 ?_
    cases gOk_some hok
    exact g_iret fx hw hr dX10_count_185
  have hok := gOk_f hok hc11
  by_cases hc12 : x1 = 12
  · have hok := gOk_t hok hc12
    refine lv_tableIn (tgt := 186) fx.1 fx.2.1 dX10_count_1 (by rw [hc12]; decide) (by rw [hc12]; decide) (by rw [hc12]; rfl) (by decide) ?_
    refine lv_aload_n fx.1 fx.2.1 dX10_count_186 rfl (lv_at hl 0 rfl) ?_
    refine g_getr fx hw h0 lf_RX10_70 rfl dX10_count_187 hok (fun a15 h_a15 hok => ?_)
    obtain ⟨v16, hf, hok⟩ := gOk_bind hok
    refine g_callV0 (κ := 6) fx hw (c_X6_brokenRopes l X τ n a15 G h_a15 hf) lv_RX10_391 ⟨rfl, rfl⟩ rfl rfl h_a15 rfl hl.1 rfl ⟨Nat.le_of_ble_eq_true rfl, Nat.le_of_ble_eq_true rfl⟩ (Nat.le_of_ble_eq_true rfl) ⟨Nat.le_of_ble_eq_true rfl, Nat.le_of_ble_eq_true rfl⟩ dX10_count_190 (fun H locs hw => ?_)
    cases gOk_some hok
    exact g_iret fx hw hr dX10_count_193
  have hok := gOk_f hok hc12
  by_cases hc13 : x1 = 13
  · have hok := gOk_t hok hc13
    refine lv_tableIn (tgt := 194) fx.1 fx.2.1 dX10_count_1 (by rw [hc13]; decide) (by rw [hc13]; decide) (by rw [hc13]; rfl) (by decide) ?_
    refine lv_aload_n fx.1 fx.2.1 dX10_count_194 rfl (lv_at hl 0 rfl) ?_
    refine g_getr fx hw h0 lf_RX10_70 rfl dX10_count_195 hok (fun a17 h_a17 hok => ?_)
    refine g_getr fx hw h_a17 lf_RX10_409 rfl dX10_count_198 hok (fun a18 h_a18 hok => ?_)
    refine g_geti fx hw h_a18 lf_RX10_447 rfl dX10_count_201 ?_
    cases gOk_some hok
    exact g_iret fx hw hr dX10_count_204
  have hok := gOk_f hok hc13
  by_cases hc14 : x1 = 14
  · have hok := gOk_t hok hc14
    refine lv_tableIn (tgt := 205) fx.1 fx.2.1 dX10_count_1 (by rw [hc14]; decide) (by rw [hc14]; decide) (by rw [hc14]; rfl) (by decide) ?_
    refine lv_aload_n fx.1 fx.2.1 dX10_count_205 rfl (lv_at hl 0 rfl) ?_
    refine g_getr fx hw h0 lf_RX10_35 rfl dX10_count_206 hok (fun a19 h_a19 hok => ?_)
    refine g_geti fx hw h_a19 lf_RX10_450 rfl dX10_count_209 ?_
    cases gOk_some hok
    exact g_iret fx hw hr dX10_count_212
  have hok := gOk_f hok hc14
  refine lv_tableOut (tgt := 213) fx.1 fx.2.1 dX10_count_1 (gOut 0 15 (by decide) (by decide) (by decide) (by decide) (fun j hj => ?_)) (by decide) ?_
  · match j, hj with
    | 0, _ => exact hc0
    | 1, _ => exact hc1
    | 2, _ => exact hc2
    | 3, _ => exact hc3
    | 4, _ => exact hc4
    | 5, _ => exact hc5
    | 6, _ => exact hc6
    | 7, _ => exact hc7
    | 8, _ => exact hc8
    | 9, _ => exact hc9
    | 10, _ => exact hc10
    | 11, _ => exact hc11
    | 12, _ => exact hc12
    | 13, _ => exact hc13
    | 14, _ => exact hc14
  · refine lv_iconst (v := (-1)) fx.1 fx.2.1 dX10_count_213 (by decide) ?_
    cases gOk_some hok
    exact g_iret fx hw hr dX10_count_214
