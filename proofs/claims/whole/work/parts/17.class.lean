theorem dX10_cuts_0 : decode cX10_cuts 0 = .ok (.aload_n 0, 1) := by decide +kernel
theorem dX10_cuts_1 : decode cX10_cuts 1 = .ok (.iload_n 1, 1) := by decide +kernel
theorem dX10_cuts_2 : decode cX10_cuts 2 = .ok (.invokevirtual 156, 3) := by decide +kernel
theorem dX10_cuts_5 : decode cX10_cuts 5 = .ok (.astore_n 3, 1) := by decide +kernel
theorem dX10_cuts_6 : decode cX10_cuts 6 = .ok (.aload_n 0, 1) := by decide +kernel
theorem dX10_cuts_7 : decode cX10_cuts 7 = .ok (.getfield 70, 3) := by decide +kernel
theorem dX10_cuts_10 : decode cX10_cuts 10 = .ok (.aload_n 0, 1) := by decide +kernel
theorem dX10_cuts_11 : decode cX10_cuts 11 = .ok (.getfield 70, 3) := by decide +kernel
theorem dX10_cuts_14 : decode cX10_cuts 14 = .ok (.aload_n 3, 1) := by decide +kernel
theorem dX10_cuts_15 : decode cX10_cuts 15 = .ok (.aload_n 0, 1) := by decide +kernel
theorem dX10_cuts_16 : decode cX10_cuts 16 = .ok (.getfield 76, 3) := by decide +kernel
theorem dX10_cuts_19 : decode cX10_cuts 19 = .ok (.invokevirtual 191, 3) := by decide +kernel
theorem dX10_cuts_22 : decode cX10_cuts 22 = .ok (.invokevirtual 355, 3) := by decide +kernel
theorem dX10_cuts_25 : decode cX10_cuts 25 = .ok (.istore 4, 2) := by decide +kernel
theorem dX10_cuts_27 : decode cX10_cuts 27 = .ok (.iconst 0, 1) := by decide +kernel
theorem dX10_cuts_28 : decode cX10_cuts 28 = .ok (.istore 5, 2) := by decide +kernel
theorem dX10_cuts_30 : decode cX10_cuts 30 = .ok (.iconst 0, 1) := by decide +kernel
theorem dX10_cuts_31 : decode cX10_cuts 31 = .ok (.istore 6, 2) := by decide +kernel
theorem dX10_cuts_33 : decode cX10_cuts 33 = .ok (.iconst 0, 1) := by decide +kernel
theorem dX10_cuts_34 : decode cX10_cuts 34 = .ok (.istore 7, 2) := by decide +kernel
theorem dX10_cuts_36 : decode cX10_cuts 36 = .ok (.iload 7, 2) := by decide +kernel
theorem dX10_cuts_38 : decode cX10_cuts 38 = .ok (.iconst 1, 1) := by decide +kernel
theorem dX10_cuts_39 : decode cX10_cuts 39 = .ok (.aload_n 0, 1) := by decide +kernel
theorem dX10_cuts_40 : decode cX10_cuts 40 = .ok (.getfield 70, 3) := by decide +kernel
theorem dX10_cuts_43 : decode cX10_cuts 43 = .ok (.getfield 332, 3) := by decide +kernel
theorem dX10_cuts_46 : decode cX10_cuts 46 = .ok (.ishl, 1) := by decide +kernel
theorem dX10_cuts_47 : decode cX10_cuts 47 = .ok (.if_icmp .ge 76, 3) := by decide +kernel
theorem dX10_cuts_50 : decode cX10_cuts 50 = .ok (.iload 7, 2) := by decide +kernel
theorem dX10_cuts_52 : decode cX10_cuts 52 = .ok (.iload 4, 2) := by decide +kernel
theorem dX10_cuts_54 : decode cX10_cuts 54 = .ok (.iconst (-1), 1) := by decide +kernel
theorem dX10_cuts_55 : decode cX10_cuts 55 = .ok (.ixor, 1) := by decide +kernel
theorem dX10_cuts_56 : decode cX10_cuts 56 = .ok (.iand, 1) := by decide +kernel
theorem dX10_cuts_57 : decode cX10_cuts 57 = .ok (.ifCond .ne 23, 3) := by decide +kernel
theorem dX10_cuts_60 : decode cX10_cuts 60 = .ok (.aload_n 0, 1) := by decide +kernel
theorem dX10_cuts_61 : decode cX10_cuts 61 = .ok (.getfield 70, 3) := by decide +kernel
theorem dX10_cuts_64 : decode cX10_cuts 64 = .ok (.iload 7, 2) := by decide +kernel
theorem dX10_cuts_66 : decode cX10_cuts 66 = .ok (.invokevirtual 358, 3) := by decide +kernel
theorem dX10_cuts_69 : decode cX10_cuts 69 = .ok (.aload_n 3, 1) := by decide +kernel
theorem dX10_cuts_70 : decode cX10_cuts 70 = .ok (.getfield 169, 3) := by decide +kernel
theorem dX10_cuts_73 : decode cX10_cuts 73 = .ok (.if_icmp .gt 7, 3) := by decide +kernel
theorem dX10_cuts_76 : decode cX10_cuts 76 = .ok (.iconst 1, 1) := by decide +kernel
theorem dX10_cuts_77 : decode cX10_cuts 77 = .ok (.goto 4, 3) := by decide +kernel
theorem dX10_cuts_80 : decode cX10_cuts 80 = .ok (.iconst 0, 1) := by decide +kernel
theorem dX10_cuts_81 : decode cX10_cuts 81 = .ok (.istore 8, 2) := by decide +kernel
theorem dX10_cuts_83 : decode cX10_cuts 83 = .ok (.iload 8, 2) := by decide +kernel
theorem dX10_cuts_85 : decode cX10_cuts 85 = .ok (.ifCond .eq 32, 3) := by decide +kernel
theorem dX10_cuts_88 : decode cX10_cuts 88 = .ok (.aload_n 0, 1) := by decide +kernel
theorem dX10_cuts_89 : decode cX10_cuts 89 = .ok (.getfield 70, 3) := by decide +kernel
theorem dX10_cuts_92 : decode cX10_cuts 92 = .ok (.iload 7, 2) := by decide +kernel
theorem dX10_cuts_94 : decode cX10_cuts 94 = .ok (.invokevirtual 342, 3) := by decide +kernel
theorem dX10_cuts_97 : decode cX10_cuts 97 = .ok (.iload 6, 2) := by decide +kernel
theorem dX10_cuts_99 : decode cX10_cuts 99 = .ok (.if_icmp .le 18, 3) := by decide +kernel
theorem dX10_cuts_102 : decode cX10_cuts 102 = .ok (.aload_n 0, 1) := by decide +kernel
theorem dX10_cuts_103 : decode cX10_cuts 103 = .ok (.getfield 70, 3) := by decide +kernel
theorem dX10_cuts_106 : decode cX10_cuts 106 = .ok (.iload 7, 2) := by decide +kernel
theorem dX10_cuts_108 : decode cX10_cuts 108 = .ok (.invokevirtual 342, 3) := by decide +kernel
theorem dX10_cuts_111 : decode cX10_cuts 111 = .ok (.istore 6, 2) := by decide +kernel
theorem dX10_cuts_113 : decode cX10_cuts 113 = .ok (.iload 7, 2) := by decide +kernel
theorem dX10_cuts_115 : decode cX10_cuts 115 = .ok (.istore 5, 2) := by decide +kernel
theorem dX10_cuts_117 : decode cX10_cuts 117 = .ok (.iinc 7 1, 3) := by decide +kernel
theorem dX10_cuts_120 : decode cX10_cuts 120 = .ok (.goto (-84), 3) := by decide +kernel
theorem dX10_cuts_123 : decode cX10_cuts 123 = .ok (.iload_n 2, 1) := by decide +kernel
theorem dX10_cuts_124 : decode cX10_cuts 124 = .ok (.ifCond .eq 8, 3) := by decide +kernel
theorem dX10_cuts_127 : decode cX10_cuts 127 = .ok (.iload 6, 2) := by decide +kernel
theorem dX10_cuts_129 : decode cX10_cuts 129 = .ok (.goto 5, 3) := by decide +kernel
theorem dX10_cuts_132 : decode cX10_cuts 132 = .ok (.iload 5, 2) := by decide +kernel
theorem dX10_cuts_134 : decode cX10_cuts 134 = .ok (.ireturn, 1) := by decide +kernel
theorem lv_RX10_355 : gLv RX10 355 RX6 yX6_ordersBorne cX6_ordersBorne 4 (some .int) 1 := gLv_of (wA_t (wt6 (List.mem_of_getElem? (i := 42) (by decide +kernel))) (by decide +kernel)) (wA_t (wt6 (List.mem_of_getElem? (i := 43) (by decide +kernel))) (by decide +kernel)) (wA_t (wt6 (List.mem_of_getElem? (i := 44) (by decide +kernel))) (by decide +kernel)) (wA_t (wt1 (List.mem_of_getElem? (i := 6) (by decide +kernel))) (by decide +kernel)) (wA_t (wt6 (List.mem_of_getElem? (i := 45) (by decide +kernel))) (by decide +kernel)) ⟨rfl, by decide +kernel, by decide +kernel, by decide +kernel⟩
theorem lv_RX10_358 : gLv RX10 358 RX6 yX6_fathomsOf cX6_fathomsOf 4 (some .int) 1 := gLv_of (wA_t (wt6 (List.mem_of_getElem? (i := 46) (by decide +kernel))) (by decide +kernel)) (wA_t (wt6 (List.mem_of_getElem? (i := 47) (by decide +kernel))) (by decide +kernel)) (wA_t (wt6 (List.mem_of_getElem? (i := 48) (by decide +kernel))) (by decide +kernel)) (wA_t (wt1 (List.mem_of_getElem? (i := 6) (by decide +kernel))) (by decide +kernel)) (wA_t (wt6 (List.mem_of_getElem? (i := 49) (by decide +kernel))) (by decide +kernel)) ⟨rfl, by decide +kernel, by decide +kernel, by decide +kernel⟩
def rm_X10_cuts : Room := { frames := 7, cells := 1, slots := 6, locals := 141 }
def k_X10_cuts_81 (τ : gτ) (n : Nat) (x0 : Nat) (x2 : Int32) (x3 : Nat) (x4 : Int32) (x5 : Int32) (x6 : Int32) (x7 : Int32) (s0 : Int32) (G : gG) : Option ((Int32 × Int32 × Int32) ⊕ ((Int32 × Int32))) :=
  if s0 = 0 then (gLet (x7 + 1) fun v12 =>
  some (.inl (x5, x6, v12)))
  else ((gr G 10 10 x0).bind fun a13 =>
  (f_X6_payOf τ n a13 x7 G).bind fun v14 =>
  if v14 ≤ x6 then (gLet (x7 + 1) fun v15 =>
  some (.inl (x5, x6, v15)))
  else ((gr G 10 10 x0).bind fun a16 =>
  (f_X6_payOf τ n a16 x7 G).bind fun v17 =>
  gLet (x7 + 1) fun v18 =>
  some (.inl (x7, v17, v18))))
def k_X10_cuts_80 (τ : gτ) (n : Nat) (x0 : Nat) (x2 : Int32) (x3 : Nat) (x4 : Int32) (x5 : Int32) (x6 : Int32) (x7 : Int32)  (G : gG) : Option ((Int32 × Int32 × Int32) ⊕ ((Int32 × Int32))) :=
  k_X10_cuts_81 τ n x0 x2 x3 x4 x5 x6 x7 (0 : Int32) G
def b_X10_cuts_36 (τ : gτ) (n : Nat) (x0 : Nat) (x2 : Int32) (x3 : Nat) (x4 : Int32) (x5 : Int32) (x6 : Int32) (x7 : Int32) (G : gG) : Option ((Int32 × Int32 × Int32) ⊕ ((Int32 × Int32))) :=
  (gr G 10 10 x0).bind fun a9 =>
  if ((1 : Int32) <<< ((gi G 6 6 a9) &&& 31)) ≤ x7 then (some (.inr (x5, x6)))
  else (if (x7 &&& (x4 ^^^ (-1 : Int32))) = 0 then ((gr G 10 10 x0).bind fun a10 =>
  (f_X6_fathomsOf τ n a10 x7 G).bind fun v11 =>
  if (gi G 5 3 x3) < v11 then (k_X10_cuts_80 τ n x0 x2 x3 x4 x5 x6 x7  G)
  else (k_X10_cuts_81 τ n x0 x2 x3 x4 x5 x6 x7 (1 : Int32) G))
  else (k_X10_cuts_80 τ n x0 x2 x3 x4 x5 x6 x7  G))
def l_X10_cuts_36 (τ : gτ) (n : Nat) (x0 : Nat) (x2 : Int32) (x3 : Nat) (x4 : Int32) (x5 : Int32) (x6 : Int32) (x7 : Int32) (G : gG) : Option ((Int32 × Int32)) :=
  gIter (fun (q : Int32 × Int32 × Int32) => b_X10_cuts_36 τ n x0 x2 x3 x4 q.1 q.2.1 q.2.2 G) n (x5, x6, x7)
def k_X10_cuts_123 (τ : gτ) (n : Nat) (x2 : Int32) (x5 : Int32) (x6 : Int32)  (G : gG) : Option ((String ⊕ Int32) × gG) :=
  if x2 = 0 then (some (.inr x5, G))
  else (some (.inr x6, G))
def f_X10_cuts (τ : gτ) (n : Nat) (x0 : Nat) (x1 : Int32) (x2 : Int32) (G : gG) : Option ((String ⊕ Int32) × gG) :=
  gBindX (f_X10_ropeOf τ x0 x1 G) fun a1 G2 =>
  gchk (gkd τ a1 5) <|
  (gr G2 10 10 x0).bind fun a3 =>
  (gr G2 10 10 x0).bind fun a4 =>
  (gr G2 10 12 x0).bind fun a5 =>
  gBind2 (f_X6_bearing τ n a4 a1 a5 G2) fun v6 G7 =>
  (f_X6_ordersBorne τ n a3 v6 G7).bind fun v8 =>
  (l_X10_cuts_36 τ n x0 x2 a1 v8 (0 : Int32) (0 : Int32) (0 : Int32) G7).bind fun q => gLet q.1 fun z19 => gLet q.2 fun z20 => 
  k_X10_cuts_123 τ n x2 z19 z20  G7
set_option maxHeartbeats 4000000 in
set_option maxRecDepth 100000 in
theorem w_X10_cuts_81 {X : gX} {τ : gτ} {p : Program} {l : Launch} {e : Env} {s : State} {m : MethodId} {args : Array Value} {below : List Frame} {meth : Method} {c : Code} (fx : gFx X p s m args meth c cX10_cuts 9 RX10) (hS : gS0 l X) (hxt : ∀ x ∈ c.exceptionTable.toList, False) (n : Nat) (x0 : Nat) (x2 : Int32) (x3 : Nat) (x4 : Int32) (x5 : Int32) (x6 : Int32) (x7 : Int32) (s0 : Int32) (h0 : gK τ x0 10) (h3 : gK τ x3 5)  {Q : State → Prop} {K : ((Int32 × Int32 × Int32) ⊕ ((Int32 × Int32))) → Prop} {G : gG} {H : Heap} {locs : List Loc} {ls : Array Slot} (hw : gHw X τ G H locs) (hl : lv_has ls 9 [(0, .ref x0), (2, .int x2), (3, .ref x3), (4, .int x4), (5, .int x5), (6, .int x6), (7, .int x7)]) (hok : gOk (k_X10_cuts_81 τ n x0 x2 x3 x4 x5 x6 x7 s0 G) K) (hc : ∀ (y5 : Int32) (y6 : Int32) (y7 : Int32) (H : Heap) (locs : List Loc) (ls : Array Slot), gHw X τ G H locs → lv_has ls 9 [(0, .ref x0), (2, .int x2), (3, .ref x3), (4, .int x4), (5, .int y5), (6, .int y6), (7, .int y7)] → K (.inl (y5, y6, y7)) → W p l e rm_X10_cuts s m args below meth c H locs 1 6 Q (F0 m 36 ls [])) (hx0 : ∀ (y5 : Int32) (y6 : Int32) (H : Heap) (locs : List Loc) (ls : Array Slot), gHw X τ G H locs → lv_has ls 9 [(2, .int x2), (5, .int y5), (6, .int y6)] → K (.inr (y5, y6)) → W p l e rm_X10_cuts s m args below meth c H locs 1 6 Q (F0 m 123 ls [])) : W p l e rm_X10_cuts s m args below meth c H locs 1 6 Q (F0 m 81 ls [.int s0]) := by
  unfold k_X10_cuts_81 at hok
  refine lv_istore (lv' := [(8, .int s0), (0, .ref x0), (2, .int x2), (3, .ref x3), (4, .int x4), (5, .int x5), (6, .int x6), (7, .int x7)]) fx.1 fx.2.1 dX10_cuts_81 hl (by decide) rfl (fun ls hl => ?_)
  refine lv_iload fx.1 fx.2.1 dX10_cuts_83 (lv_at hl 0 rfl) ?_
  refine g_if_eq (tgt := 117) fx dX10_cuts_85 (by decide) hok (fun hok => ?_) (fun hok => ?_)
  · obtain ⟨v12, e_v12, hok⟩ := gOk_let hok
    refine lv_iinc (v := v12) (lv' := [(7, .int v12), (8, .int s0), (0, .ref x0), (2, .int x2), (3, .ref x3), (4, .int x4), (5, .int x5), (6, .int x6)]) fx.1 fx.2.1 dX10_cuts_117 hl (k := 7) rfl (by rw [e_v12]; rfl) (by decide) rfl (fun ls hl => ?_)
    refine lv_goto (tgt := 36) fx.1 fx.2.1 dX10_cuts_120 (by decide) ?_
    exact hc x5 x6 v12  _ _ _  hw (lv_sub hl [2, 3, 4, 5, 6, 7, 0] rfl) (gOk_some hok)
  · refine lv_aload_n fx.1 fx.2.1 dX10_cuts_88 rfl (lv_at hl 1 rfl) ?_
    refine g_getr fx hw h0 lf_RX10_70 rfl dX10_cuts_89 hok (fun a13 h_a13 hok => ?_)
    refine lv_iload fx.1 fx.2.1 dX10_cuts_92 (lv_at hl 7 rfl) ?_
    obtain ⟨v14, hf, hok⟩ := gOk_bind hok
    refine g_callV0 (κ := 6) fx hw (c_X6_payOf l X τ n a13 x7 G h_a13 hf) lv_RX10_342 ⟨rfl, rfl⟩ rfl rfl h_a13 rfl hl.1 rfl ⟨Nat.le_of_ble_eq_true rfl, Nat.le_of_ble_eq_true rfl⟩ (Nat.le_of_ble_eq_true rfl) ⟨Nat.le_of_ble_eq_true rfl, Nat.le_of_ble_eq_true rfl⟩ dX10_cuts_94 (fun H locs hw => ?_)
    refine lv_iload fx.1 fx.2.1 dX10_cuts_97 (lv_at hl 6 rfl) ?_
    refine g_icmp_le (tgt := 117) fx dX10_cuts_99 (by decide) hok (fun hok => ?_) (fun hok => ?_)
    · obtain ⟨v15, e_v15, hok⟩ := gOk_let hok
      refine lv_iinc (v := v15) (lv' := [(7, .int v15), (8, .int s0), (0, .ref x0), (2, .int x2), (3, .ref x3), (4, .int x4), (5, .int x5), (6, .int x6)]) fx.1 fx.2.1 dX10_cuts_117 hl (k := 7) rfl (by rw [e_v15]; rfl) (by decide) rfl (fun ls hl => ?_)
      refine lv_goto (tgt := 36) fx.1 fx.2.1 dX10_cuts_120 (by decide) ?_
      exact hc x5 x6 v15  _ _ _  hw (lv_sub hl [2, 3, 4, 5, 6, 7, 0] rfl) (gOk_some hok)
    · refine lv_aload_n fx.1 fx.2.1 dX10_cuts_102 rfl (lv_at hl 1 rfl) ?_
      refine g_getr fx hw h0 lf_RX10_70 rfl dX10_cuts_103 hok (fun a16 h_a16 hok => ?_)
      refine lv_iload fx.1 fx.2.1 dX10_cuts_106 (lv_at hl 7 rfl) ?_
      obtain ⟨v17, hf, hok⟩ := gOk_bind hok
      refine g_callV0 (κ := 6) fx hw (c_X6_payOf l X τ n a16 x7 G h_a16 hf) lv_RX10_342 ⟨rfl, rfl⟩ rfl rfl h_a16 rfl hl.1 rfl ⟨Nat.le_of_ble_eq_true rfl, Nat.le_of_ble_eq_true rfl⟩ (Nat.le_of_ble_eq_true rfl) ⟨Nat.le_of_ble_eq_true rfl, Nat.le_of_ble_eq_true rfl⟩ dX10_cuts_108 (fun H locs hw => ?_)
      refine lv_istore (lv' := [(6, .int v17), (8, .int s0), (0, .ref x0), (2, .int x2), (3, .ref x3), (4, .int x4), (5, .int x5), (7, .int x7)]) fx.1 fx.2.1 dX10_cuts_111 hl (by decide) rfl (fun ls hl => ?_)
      refine lv_iload fx.1 fx.2.1 dX10_cuts_113 (lv_at hl 7 rfl) ?_
      refine lv_istore (lv' := [(5, .int x7), (6, .int v17), (8, .int s0), (0, .ref x0), (2, .int x2), (3, .ref x3), (4, .int x4), (7, .int x7)]) fx.1 fx.2.1 dX10_cuts_115 hl (by decide) rfl (fun ls hl => ?_)
      obtain ⟨v18, e_v18, hok⟩ := gOk_let hok
      refine lv_iinc (v := v18) (lv' := [(7, .int v18), (5, .int x7), (6, .int v17), (8, .int s0), (0, .ref x0), (2, .int x2), (3, .ref x3), (4, .int x4)]) fx.1 fx.2.1 dX10_cuts_117 hl (k := 7) rfl (by rw [e_v18]; rfl) (by decide) rfl (fun ls hl => ?_)
      refine lv_goto (tgt := 36) fx.1 fx.2.1 dX10_cuts_120 (by decide) ?_
      exact hc x7 v17 v18  _ _ _  hw (lv_sub hl [4, 5, 6, 7, 1, 2, 0] rfl) (gOk_some hok)
set_option maxHeartbeats 4000000 in
set_option maxRecDepth 100000 in
theorem w_X10_cuts_80 {X : gX} {τ : gτ} {p : Program} {l : Launch} {e : Env} {s : State} {m : MethodId} {args : Array Value} {below : List Frame} {meth : Method} {c : Code} (fx : gFx X p s m args meth c cX10_cuts 9 RX10) (hS : gS0 l X) (hxt : ∀ x ∈ c.exceptionTable.toList, False) (n : Nat) (x0 : Nat) (x2 : Int32) (x3 : Nat) (x4 : Int32) (x5 : Int32) (x6 : Int32) (x7 : Int32)  (h0 : gK τ x0 10) (h3 : gK τ x3 5)  {Q : State → Prop} {K : ((Int32 × Int32 × Int32) ⊕ ((Int32 × Int32))) → Prop} {G : gG} {H : Heap} {locs : List Loc} {ls : Array Slot} (hw : gHw X τ G H locs) (hl : lv_has ls 9 [(0, .ref x0), (2, .int x2), (3, .ref x3), (4, .int x4), (5, .int x5), (6, .int x6), (7, .int x7)]) (hok : gOk (k_X10_cuts_80 τ n x0 x2 x3 x4 x5 x6 x7  G) K) (hc : ∀ (y5 : Int32) (y6 : Int32) (y7 : Int32) (H : Heap) (locs : List Loc) (ls : Array Slot), gHw X τ G H locs → lv_has ls 9 [(0, .ref x0), (2, .int x2), (3, .ref x3), (4, .int x4), (5, .int y5), (6, .int y6), (7, .int y7)] → K (.inl (y5, y6, y7)) → W p l e rm_X10_cuts s m args below meth c H locs 1 6 Q (F0 m 36 ls [])) (hx0 : ∀ (y5 : Int32) (y6 : Int32) (H : Heap) (locs : List Loc) (ls : Array Slot), gHw X τ G H locs → lv_has ls 9 [(2, .int x2), (5, .int y5), (6, .int y6)] → K (.inr (y5, y6)) → W p l e rm_X10_cuts s m args below meth c H locs 1 6 Q (F0 m 123 ls [])) : W p l e rm_X10_cuts s m args below meth c H locs 1 6 Q (F0 m 80 ls []) := by
  unfold k_X10_cuts_80 at hok
  refine lv_iconst (v := 0) fx.1 fx.2.1 dX10_cuts_80 (by decide) ?_
  exact w_X10_cuts_81 fx hS hxt n x0 x2 x3 x4 x5 x6 x7 (0 : Int32) h0 h3  hw (lv_sub hl [0, 1, 2, 3, 4, 5, 6] rfl) hok hc hx0
set_option maxHeartbeats 4000000 in
set_option maxRecDepth 100000 in
theorem w_b_X10_cuts_36 {X : gX} {τ : gτ} {p : Program} {l : Launch} {e : Env} {s : State} {m : MethodId} {args : Array Value} {below : List Frame} {meth : Method} {c : Code} (fx : gFx X p s m args meth c cX10_cuts 9 RX10) (hS : gS0 l X) (hxt : ∀ x ∈ c.exceptionTable.toList, False) (n : Nat) (x0 : Nat) (x2 : Int32) (x3 : Nat) (x4 : Int32) (x5 : Int32) (x6 : Int32) (x7 : Int32) (h0 : gK τ x0 10) (h3 : gK τ x3 5) {Q : State → Prop} {K : ((Int32 × Int32 × Int32) ⊕ ((Int32 × Int32))) → Prop} {G : gG} {H : Heap} {locs : List Loc} {ls : Array Slot} (hw : gHw X τ G H locs) (hl : lv_has ls 9 [(0, .ref x0), (2, .int x2), (3, .ref x3), (4, .int x4), (5, .int x5), (6, .int x6), (7, .int x7)]) (hok : gOk (b_X10_cuts_36 τ n x0 x2 x3 x4 x5 x6 x7 G) K) (hc : ∀ (y5 : Int32) (y6 : Int32) (y7 : Int32) (H : Heap) (locs : List Loc) (ls : Array Slot), gHw X τ G H locs → lv_has ls 9 [(0, .ref x0), (2, .int x2), (3, .ref x3), (4, .int x4), (5, .int y5), (6, .int y6), (7, .int y7)] → K (.inl (y5, y6, y7)) → W p l e rm_X10_cuts s m args below meth c H locs 1 6 Q (F0 m 36 ls [])) (hx0 : ∀ (y5 : Int32) (y6 : Int32) (H : Heap) (locs : List Loc) (ls : Array Slot), gHw X τ G H locs → lv_has ls 9 [(2, .int x2), (5, .int y5), (6, .int y6)] → K (.inr (y5, y6)) → W p l e rm_X10_cuts s m args below meth c H locs 1 6 Q (F0 m 123 ls [])) : W p l e rm_X10_cuts s m args below meth c H locs 1 6 Q (F0 m 36 ls []) := by
  unfold b_X10_cuts_36 at hok
  refine lv_iload fx.1 fx.2.1 dX10_cuts_36 (lv_at hl 6 rfl) ?_
  refine lv_iconst (v := 1) fx.1 fx.2.1 dX10_cuts_38 (by decide) ?_
  refine lv_aload_n fx.1 fx.2.1 dX10_cuts_39 rfl (lv_at hl 0 rfl) ?_
  refine g_getr fx hw h0 lf_RX10_70 rfl dX10_cuts_40 hok (fun a9 h_a9 hok => ?_)
  refine g_geti fx hw h_a9 lf_RX10_332 rfl dX10_cuts_43 ?_
  refine lv_ishl fx.1 fx.2.1 dX10_cuts_46 ?_
  refine g_icmp_ge (tgt := 123) fx dX10_cuts_47 (by decide) hok (fun hok => ?_) (fun hok => ?_)
  · exact hx0 x5 x6  _ _ _  hw (lv_sub hl [1, 4, 5] rfl) (gOk_some hok)
  · refine lv_iload fx.1 fx.2.1 dX10_cuts_50 (lv_at hl 6 rfl) ?_
    refine lv_iload fx.1 fx.2.1 dX10_cuts_52 (lv_at hl 3 rfl) ?_
    refine lv_iconst (v := (-1)) fx.1 fx.2.1 dX10_cuts_54 (by decide) ?_
    refine lv_ixor fx.1 fx.2.1 dX10_cuts_55 ?_
    refine lv_iand fx.1 fx.2.1 dX10_cuts_56 ?_
    refine g_if_ne (tgt := 80) fx dX10_cuts_57 (by decide) hok (fun hok => ?_) (fun hok => ?_)
    · refine lv_aload_n fx.1 fx.2.1 dX10_cuts_60 rfl (lv_at hl 0 rfl) ?_
      refine g_getr fx hw h0 lf_RX10_70 rfl dX10_cuts_61 hok (fun a10 h_a10 hok => ?_)
      refine lv_iload fx.1 fx.2.1 dX10_cuts_64 (lv_at hl 6 rfl) ?_
      obtain ⟨v11, hf, hok⟩ := gOk_bind hok
      refine g_callV0 (κ := 6) fx hw (c_X6_fathomsOf l X τ n a10 x7 G h_a10 hf) lv_RX10_358 ⟨rfl, rfl⟩ rfl rfl h_a10 rfl hl.1 rfl ⟨Nat.le_of_ble_eq_true rfl, Nat.le_of_ble_eq_true rfl⟩ (Nat.le_of_ble_eq_true rfl) ⟨Nat.le_of_ble_eq_true rfl, Nat.le_of_ble_eq_true rfl⟩ dX10_cuts_66 (fun H locs hw => ?_)
      refine lv_aload_n fx.1 fx.2.1 dX10_cuts_69 rfl (lv_at hl 2 rfl) ?_
      refine g_geti fx hw h3 lf_RX10_169 rfl dX10_cuts_70 ?_
      refine g_icmp_gt (tgt := 80) fx dX10_cuts_73 (by decide) hok (fun hok => ?_) (fun hok => ?_)
      · exact w_X10_cuts_80 fx hS hxt n x0 x2 x3 x4 x5 x6 x7  h0 h3  hw (lv_sub hl [0, 1, 2, 3, 4, 5, 6] rfl) hok hc hx0
      · refine lv_iconst (v := 1) fx.1 fx.2.1 dX10_cuts_76 (by decide) ?_
        refine lv_goto (tgt := 81) fx.1 fx.2.1 dX10_cuts_77 (by decide) ?_
        exact w_X10_cuts_81 fx hS hxt n x0 x2 x3 x4 x5 x6 x7 (1 : Int32) h0 h3  hw (lv_sub hl [0, 1, 2, 3, 4, 5, 6] rfl) hok hc hx0
    · exact w_X10_cuts_80 fx hS hxt n x0 x2 x3 x4 x5 x6 x7  h0 h3  hw (lv_sub hl [0, 1, 2, 3, 4, 5, 6] rfl) hok hc hx0
theorem w_l_X10_cuts_36 {X : gX} {τ : gτ} {p : Program} {l : Launch} {e : Env} {s : State} {m : MethodId} {args : Array Value} {below : List Frame} {meth : Method} {c : Code} (fx : gFx X p s m args meth c cX10_cuts 9 RX10) (hS : gS0 l X) (hxt : ∀ x ∈ c.exceptionTable.toList, False) (n : Nat) (x0 : Nat) (x2 : Int32) (x3 : Nat) (x4 : Int32) (h0 : gK τ x0 10) (h3 : gK τ x3 5) (G : gG) {Q : State → Prop} {K : ((Int32 × Int32)) → Prop} (hx0 : ∀ (y5 : Int32) (y6 : Int32) (H : Heap) (locs : List Loc) (ls : Array Slot), gHw X τ G H locs → lv_has ls 9 [(2, .int x2), (5, .int y5), (6, .int y6)] → K (y5, y6) → W p l e rm_X10_cuts s m args below meth c H locs 1 6 Q (F0 m 123 ls [])) : ∀ (k : Nat) (x5 : Int32) (x6 : Int32) (x7 : Int32) (H : Heap) (locs : List Loc) (ls : Array Slot), gHw X τ G H locs → lv_has ls 9 [(0, .ref x0), (2, .int x2), (3, .ref x3), (4, .int x4), (5, .int x5), (6, .int x6), (7, .int x7)] → gOk (gIter (fun (q : Int32 × Int32 × Int32) => b_X10_cuts_36 τ n x0 x2 x3 x4 q.1 q.2.1 q.2.2 G) k (x5, x6, x7)) K → W p l e rm_X10_cuts s m args below meth c H locs 1 6 Q (F0 m 36 ls []) := by
  intro k
  induction k with
  | zero =>
    intro x5 x6 x7  H locs ls hw hl hok
    exact gOk_iter0 hok
  | succ k hc =>
    intro x5 x6 x7  H locs ls hw hl hok
    exact w_b_X10_cuts_36 fx hS hxt n x0 x2 x3 x4 x5 x6 x7 h0 h3 hw hl (gOk_iter hok) hc hx0
set_option maxHeartbeats 4000000 in
set_option maxRecDepth 100000 in
theorem w_X10_cuts_123 {X : gX} {τ : gτ} {p : Program} {l : Launch} {e : Env} {s : State} {m : MethodId} {args : Array Value} {below : List Frame} {meth : Method} {c : Code} (fx : gFx X p s m args meth c cX10_cuts 9 RX10) (hS : gS0 l X) (hxt : ∀ x ∈ c.exceptionTable.toList, False) (n : Nat) (x2 : Int32) (x5 : Int32) (x6 : Int32)    (hr : meth.sig.returnType = (some .int)) {r : String ⊕ Int32} {G' : gG} {G : gG} {H : Heap} {locs : List Loc} {ls : Array Slot} (hw : gHw X τ G H locs) (hl : lv_has ls 9 [(2, .int x2), (5, .int x5), (6, .int x6)]) (hok : gOk (k_X10_cuts_123 τ n x2 x5 x6  G) (fun q => q = (r, G')))  : W p l e rm_X10_cuts s m args below meth c H locs 1 6 (vx_MQ below (gQX X τ (gOi r) G') (gXC X τ (gOi r) G') args s rm_X10_cuts.cells rm_X10_cuts.slots (gFree X)) (F0 m 123 ls []) := by
  unfold k_X10_cuts_123 at hok
  refine lv_iload_n fx.1 fx.2.1 dX10_cuts_123 rfl (lv_at hl 0 rfl) ?_
  refine g_if_eq (tgt := 132) fx dX10_cuts_124 (by decide) hok (fun hok => ?_) (fun hok => ?_)
  · refine lv_iload fx.1 fx.2.1 dX10_cuts_132 (lv_at hl 1 rfl) ?_
    cases gOk_some hok
    exact g_iretX fx hw hr ⟨Nat.le_of_ble_eq_true rfl, Nat.le_of_ble_eq_true rfl⟩ dX10_cuts_134
  · refine lv_iload fx.1 fx.2.1 dX10_cuts_127 (lv_at hl 2 rfl) ?_
    refine lv_goto (tgt := 134) fx.1 fx.2.1 dX10_cuts_129 (by decide) ?_
    cases gOk_some hok
    exact g_iretX fx hw hr ⟨Nat.le_of_ble_eq_true rfl, Nat.le_of_ble_eq_true rfl⟩ dX10_cuts_134
set_option maxHeartbeats 4000000 in
set_option maxRecDepth 100000 in
theorem c_X10_cuts (l : Launch) (X : gX) (τ : gτ) (n : Nat) (hS : gS0 l X) (x0 : Nat) (x1 : Int32) (x2 : Int32) (G : gG) (h0 : gK τ x0 10) {r : String ⊕ Int32} {G' : gG} (h : f_X10_cuts τ n x0 x1 x2 G = some (r, G')) : gMX l X τ yX10_cuts cX10_cuts 9 (some .int) rm_X10_cuts [.ref x0, .int x1, .int x2] G (gOi r) G' := by
  refine g_bodyX (by decide +kernel) (Nat.le_of_ble_eq_true rfl) ?_
  intro p e s m args below meth c ls fx hr hxt hw hl
  have fx : gFx X p s m args meth c cX10_cuts 9 RX10 := fx
  have hl : lv_has ls 9 [(0, .ref x0), (1, .int x1), (2, .int x2)] := hl
  have hok : gOk (f_X10_cuts τ n x0 x1 x2 G) (fun q => q = (r, G')) := ⟨_, h, rfl⟩
  unfold f_X10_cuts at hok
  show W p l e rm_X10_cuts s m args below meth c s.heap [] 0 0 (vx_MQ below (gQX X τ (gOi r) G') (gXC X τ (gOi r) G') args s rm_X10_cuts.cells rm_X10_cuts.slots (gFree X)) _
  refine lv_aload_n fx.1 fx.2.1 dX10_cuts_0 rfl (lv_at hl 0 rfl) ?_
  refine lv_iload_n fx.1 fx.2.1 dX10_cuts_1 rfl (lv_at hl 1 rfl) ?_
  rcases gOk_bindX hok with ⟨E, G9, hf, hK⟩ | ⟨a1, G2, hf, hok⟩
  · have hK : (Sum.inl E, G9) = (r, G') := hK
    cases hK
    refine g_callVX (κ := 10) (As := [.int x1]) fx hw hxt (c_X10_ropeOf l X τ hS x0 x1 G h0 hf) lv_RX10_156 rfl rfl h0 rfl hl.1 rfl ⟨Nat.le_of_ble_eq_true rfl, Nat.le_of_ble_eq_true rfl⟩ (Nat.le_of_ble_eq_true rfl) ⟨Nat.le_of_ble_eq_true rfl, Nat.le_of_ble_eq_true rfl⟩ ⟨Nat.le_of_ble_eq_true rfl, Nat.le_of_ble_eq_true rfl⟩ dX10_cuts_2 (fun u H locs hv hw => ?_) (fun E9 hE => ?_)
    · have hv : (Sum.inl E : String ⊕ Option Value) = Sum.inr u := hv
      cases hv
    · have hE : (Sum.inl E : String ⊕ Option Value) = Sum.inl E9 := hE
      cases hE
      exact ⟨rfl, rfl⟩
  refine g_callVX (κ := 10) (As := [.int x1]) fx hw hxt (c_X10_ropeOf l X τ hS x0 x1 G h0 hf) lv_RX10_156 rfl rfl h0 rfl hl.1 rfl ⟨Nat.le_of_ble_eq_true rfl, Nat.le_of_ble_eq_true rfl⟩ (Nat.le_of_ble_eq_true rfl) ⟨Nat.le_of_ble_eq_true rfl, Nat.le_of_ble_eq_true rfl⟩ ⟨Nat.le_of_ble_eq_true rfl, Nat.le_of_ble_eq_true rfl⟩ dX10_cuts_2 (fun u9 H locs hv hw => ?_) (fun E9 hE => by have hE : (Sum.inr (some (.ref a1)) : String ⊕ Option Value) = Sum.inl E9 := hE; cases hE)
  have hv : (Sum.inr (some (.ref a1)) : String ⊕ Option Value) = Sum.inr u9 := hv
  cases hv
  obtain ⟨h_a1, hok⟩ := gOk_chk hok
  have h_a1 : gK τ a1 5 := gkd_K h_a1
  refine lv_astore_n (lv' := [(3, .ref a1), (0, .ref x0), (1, .int x1), (2, .int x2)]) fx.1 fx.2.1 dX10_cuts_5 rfl hl (by decide) rfl (fun ls hl => ?_)
  refine lv_aload_n fx.1 fx.2.1 dX10_cuts_6 rfl (lv_at hl 1 rfl) ?_
  refine g_getr fx hw h0 lf_RX10_70 rfl dX10_cuts_7 hok (fun a3 h_a3 hok => ?_)
  refine lv_aload_n fx.1 fx.2.1 dX10_cuts_10 rfl (lv_at hl 1 rfl) ?_
  refine g_getr fx hw h0 lf_RX10_70 rfl dX10_cuts_11 hok (fun a4 h_a4 hok => ?_)
  refine lv_aload_n fx.1 fx.2.1 dX10_cuts_14 rfl (lv_at hl 0 rfl) ?_
  refine lv_aload_n fx.1 fx.2.1 dX10_cuts_15 rfl (lv_at hl 1 rfl) ?_
  refine g_getr fx hw h0 lf_RX10_76 rfl dX10_cuts_16 hok (fun a5 h_a5 hok => ?_)
  obtain ⟨v6, G7, hf, hok⟩ := gOk_bind2 hok
  refine g_callV0 (κ := 6) fx hw (c_X6_bearing l X τ n a4 a1 a5 G2 h_a4 h_a1 h_a5 hf) lv_RX10_191 ⟨rfl, rfl⟩ rfl rfl h_a4 rfl hl.1 rfl ⟨Nat.le_of_ble_eq_true rfl, Nat.le_of_ble_eq_true rfl⟩ (Nat.le_of_ble_eq_true rfl) ⟨Nat.le_of_ble_eq_true rfl, Nat.le_of_ble_eq_true rfl⟩ dX10_cuts_19 (fun H locs hw => ?_)
  obtain ⟨v8, hf, hok⟩ := gOk_bind hok
  refine g_callV0 (κ := 6) fx hw (c_X6_ordersBorne l X τ n a3 v6 G7 h_a3 hf) lv_RX10_355 ⟨rfl, rfl⟩ rfl rfl h_a3 rfl hl.1 rfl ⟨Nat.le_of_ble_eq_true rfl, Nat.le_of_ble_eq_true rfl⟩ (Nat.le_of_ble_eq_true rfl) ⟨Nat.le_of_ble_eq_true rfl, Nat.le_of_ble_eq_true rfl⟩ dX10_cuts_22 (fun H locs hw => ?_)
  refine lv_istore (lv' := [(4, .int v8), (3, .ref a1), (0, .ref x0), (1, .int x1), (2, .int x2)]) fx.1 fx.2.1 dX10_cuts_25 hl (by decide) rfl (fun ls hl => ?_)
  refine lv_iconst (v := 0) fx.1 fx.2.1 dX10_cuts_27 (by decide) ?_
  refine lv_istore (lv' := [(5, .int (0 : Int32)), (4, .int v8), (3, .ref a1), (0, .ref x0), (1, .int x1), (2, .int x2)]) fx.1 fx.2.1 dX10_cuts_28 hl (by decide) rfl (fun ls hl => ?_)
  refine lv_iconst (v := 0) fx.1 fx.2.1 dX10_cuts_30 (by decide) ?_
  refine lv_istore (lv' := [(6, .int (0 : Int32)), (5, .int (0 : Int32)), (4, .int v8), (3, .ref a1), (0, .ref x0), (1, .int x1), (2, .int x2)]) fx.1 fx.2.1 dX10_cuts_31 hl (by decide) rfl (fun ls hl => ?_)
  refine lv_iconst (v := 0) fx.1 fx.2.1 dX10_cuts_33 (by decide) ?_
  refine lv_istore (lv' := [(7, .int (0 : Int32)), (6, .int (0 : Int32)), (5, .int (0 : Int32)), (4, .int v8), (3, .ref a1), (0, .ref x0), (1, .int x1), (2, .int x2)]) fx.1 fx.2.1 dX10_cuts_34 hl (by decide) rfl (fun ls hl => ?_)
  refine w_l_X10_cuts_36 fx hS hxt n x0 x2 a1 v8 h0 h_a1 G7 ?_ n (0 : Int32) (0 : Int32) (0 : Int32)  _ _ _  hw (lv_sub hl [5, 7, 4, 3, 2, 1, 0] rfl) (gOk_bindK hok)
  intro z19 z20  H locs ls hw hl hok
  have hok : gOk (ρ := (String ⊕ Int32) × gG) (k_X10_cuts_123 τ n x2 z19 z20  G7) _ := hok
  exact w_X10_cuts_123 fx hS hxt n x2 z19 z20    hr hw (lv_sub hl [0, 1, 2] rfl) hok
theorem dX10_hoursWithOneMore_0 : decode cX10_hoursWithOneMore 0 = .ok (.aload_n 0, 1) := by decide +kernel
theorem dX10_hoursWithOneMore_1 : decode cX10_hoursWithOneMore 1 = .ok (.getfield 60, 3) := by decide +kernel
theorem dX10_hoursWithOneMore_4 : decode cX10_hoursWithOneMore 4 = .ok (.iload_n 1, 1) := by decide +kernel
theorem dX10_hoursWithOneMore_5 : decode cX10_hoursWithOneMore 5 = .ok (.iaload, 1) := by decide +kernel
theorem dX10_hoursWithOneMore_6 : decode cX10_hoursWithOneMore 6 = .ok (.istore_n 2, 1) := by decide +kernel
theorem dX10_hoursWithOneMore_7 : decode cX10_hoursWithOneMore 7 = .ok (.iload_n 1, 1) := by decide +kernel
theorem dX10_hoursWithOneMore_8 : decode cX10_hoursWithOneMore 8 = .ok (.istore_n 3, 1) := by decide +kernel
theorem dX10_hoursWithOneMore_9 : decode cX10_hoursWithOneMore 9 = .ok (.iconst 0, 1) := by decide +kernel
theorem dX10_hoursWithOneMore_10 : decode cX10_hoursWithOneMore 10 = .ok (.istore 4, 2) := by decide +kernel
theorem dX10_hoursWithOneMore_12 : decode cX10_hoursWithOneMore 12 = .ok (.iload 4, 2) := by decide +kernel
theorem dX10_hoursWithOneMore_14 : decode cX10_hoursWithOneMore 14 = .ok (.sipush 256, 3) := by decide +kernel
theorem dX10_hoursWithOneMore_17 : decode cX10_hoursWithOneMore 17 = .ok (.if_icmp .ge 41, 3) := by decide +kernel
theorem dX10_hoursWithOneMore_20 : decode cX10_hoursWithOneMore 20 = .ok (.iload_n 3, 1) := by decide +kernel
theorem dX10_hoursWithOneMore_21 : decode cX10_hoursWithOneMore 21 = .ok (.ifCond .le 37, 3) := by decide +kernel
theorem dX10_hoursWithOneMore_24 : decode cX10_hoursWithOneMore 24 = .ok (.iload_n 2, 1) := by decide +kernel
theorem dX10_hoursWithOneMore_25 : decode cX10_hoursWithOneMore 25 = .ok (.aload_n 0, 1) := by decide +kernel
theorem dX10_hoursWithOneMore_26 : decode cX10_hoursWithOneMore 26 = .ok (.getfield 64, 3) := by decide +kernel
theorem dX10_hoursWithOneMore_29 : decode cX10_hoursWithOneMore 29 = .ok (.iload_n 3, 1) := by decide +kernel
theorem dX10_hoursWithOneMore_30 : decode cX10_hoursWithOneMore 30 = .ok (.iaload, 1) := by decide +kernel
theorem dX10_hoursWithOneMore_31 : decode cX10_hoursWithOneMore 31 = .ok (.aload_n 0, 1) := by decide +kernel
theorem dX10_hoursWithOneMore_32 : decode cX10_hoursWithOneMore 32 = .ok (.getfield 60, 3) := by decide +kernel
theorem dX10_hoursWithOneMore_35 : decode cX10_hoursWithOneMore 35 = .ok (.iload_n 1, 1) := by decide +kernel
theorem dX10_hoursWithOneMore_36 : decode cX10_hoursWithOneMore 36 = .ok (.iload_n 3, 1) := by decide +kernel
theorem dX10_hoursWithOneMore_37 : decode cX10_hoursWithOneMore 37 = .ok (.ixor, 1) := by decide +kernel
theorem dX10_hoursWithOneMore_38 : decode cX10_hoursWithOneMore 38 = .ok (.iaload, 1) := by decide +kernel
theorem dX10_hoursWithOneMore_39 : decode cX10_hoursWithOneMore 39 = .ok (.invokestatic 345, 3) := by decide +kernel
theorem dX10_hoursWithOneMore_42 : decode cX10_hoursWithOneMore 42 = .ok (.invokestatic 406, 3) := by decide +kernel
theorem dX10_hoursWithOneMore_45 : decode cX10_hoursWithOneMore 45 = .ok (.istore_n 2, 1) := by decide +kernel
theorem dX10_hoursWithOneMore_46 : decode cX10_hoursWithOneMore 46 = .ok (.iload_n 3, 1) := by decide +kernel
theorem dX10_hoursWithOneMore_47 : decode cX10_hoursWithOneMore 47 = .ok (.iconst 1, 1) := by decide +kernel
theorem dX10_hoursWithOneMore_48 : decode cX10_hoursWithOneMore 48 = .ok (.isub, 1) := by decide +kernel
theorem dX10_hoursWithOneMore_49 : decode cX10_hoursWithOneMore 49 = .ok (.iload_n 1, 1) := by decide +kernel
theorem dX10_hoursWithOneMore_50 : decode cX10_hoursWithOneMore 50 = .ok (.iand, 1) := by decide +kernel
theorem dX10_hoursWithOneMore_51 : decode cX10_hoursWithOneMore 51 = .ok (.istore_n 3, 1) := by decide +kernel
theorem dX10_hoursWithOneMore_52 : decode cX10_hoursWithOneMore 52 = .ok (.iinc 4 1, 3) := by decide +kernel
theorem dX10_hoursWithOneMore_55 : decode cX10_hoursWithOneMore 55 = .ok (.goto (-43), 3) := by decide +kernel
theorem dX10_hoursWithOneMore_58 : decode cX10_hoursWithOneMore 58 = .ok (.iload_n 2, 1) := by decide +kernel
theorem dX10_hoursWithOneMore_59 : decode cX10_hoursWithOneMore 59 = .ok (.ireturn, 1) := by decide +kernel
theorem lf_RX10_64 : gLf RX10 64 10 8 := ⟨(RX10, TX10, 15), rfl, by decide, wA_t (wt2 (List.mem_of_getElem? (i := 134) (by decide +kernel))) (by decide +kernel), rfl⟩
def rm_X10_hoursWithOneMore : Room := { frames := 1, cells := 0, slots := 0, locals := 21 }
def b_X10_hoursWithOneMore_12 (τ : gτ) (n : Nat) (x0 : Nat) (x1 : Int32) (x2 : Int32) (x3 : Int32) (x4 : Int32) (G : gG) : Option ((Int32 × Int32 × Int32) ⊕ ((Int32))) :=
  if (256 : Int32) ≤ x4 then (some (.inr x2))
  else (if x3 ≤ 0 then (some (.inr x2))
  else ((gr G 10 8 x0).bind fun a3 =>
  gchk (gIn x3 (gn τ a3)) <|
  (gr G 10 7 x0).bind fun a4 =>
  gchk (gIn (x1 ^^^ x3) (gn τ a4)) <|
  gLet (gmin x2 (gmax (ge G a3 (Int32.toNatClampNeg x3)) (ge G a4 (Int32.toNatClampNeg (x1 ^^^ x3))))) fun v5 =>
  gLet ((x3 - (1 : Int32)) &&& x1) fun v6 =>
  gLet (x4 + 1) fun v7 =>
  some (.inl (v5, v6, v7))))
def l_X10_hoursWithOneMore_12 (τ : gτ) (n : Nat) (x0 : Nat) (x1 : Int32) (x2 : Int32) (x3 : Int32) (x4 : Int32) (G : gG) : Option ((Int32)) :=
  gIter (fun (q : Int32 × Int32 × Int32) => b_X10_hoursWithOneMore_12 τ n x0 x1 q.1 q.2.1 q.2.2 G) n (x2, x3, x4)
def f_X10_hoursWithOneMore (τ : gτ) (n : Nat) (x0 : Nat) (x1 : Int32) (G : gG) : Option (Int32) :=
  (gr G 10 7 x0).bind fun a1 =>
  gchk (gIn x1 (gn τ a1)) <|
  gLet (ge G a1 (Int32.toNatClampNeg x1)) fun v2 =>
  (l_X10_hoursWithOneMore_12 τ n x0 x1 v2 x1 (0 : Int32) G).bind fun q => gLet q fun z8 => 
  some (z8)
set_option maxHeartbeats 4000000 in
set_option maxRecDepth 100000 in
theorem w_b_X10_hoursWithOneMore_12 {X : gX} {τ : gτ} {p : Program} {l : Launch} {e : Env} {s : State} {m : MethodId} {args : Array Value} {below : List Frame} {meth : Method} {c : Code} (fx : gFx X p s m args meth c cX10_hoursWithOneMore 5 RX10) (n : Nat) (x0 : Nat) (x1 : Int32) (x2 : Int32) (x3 : Int32) (x4 : Int32) (h0 : gK τ x0 10) {Q : State → Prop} {K : ((Int32 × Int32 × Int32) ⊕ ((Int32))) → Prop} {G : gG} {H : Heap} {locs : List Loc} {ls : Array Slot} (hw : gHw X τ G H locs) (hl : lv_has ls 5 [(0, .ref x0), (1, .int x1), (2, .int x2), (3, .int x3), (4, .int x4)]) (hok : gOk (b_X10_hoursWithOneMore_12 τ n x0 x1 x2 x3 x4 G) K) (hc : ∀ (y2 : Int32) (y3 : Int32) (y4 : Int32) (H : Heap) (locs : List Loc) (ls : Array Slot), gHw X τ G H locs → lv_has ls 5 [(0, .ref x0), (1, .int x1), (2, .int y2), (3, .int y3), (4, .int y4)] → K (.inl (y2, y3, y4)) → W p l e rm_X10_hoursWithOneMore s m args below meth c H locs 0 0 Q (F0 m 12 ls [])) (hx0 : ∀ (y2 : Int32) (H : Heap) (locs : List Loc) (ls : Array Slot), gHw X τ G H locs → lv_has ls 5 [(2, .int y2)] → K (.inr y2) → W p l e rm_X10_hoursWithOneMore s m args below meth c H locs 0 0 Q (F0 m 58 ls [])) : W p l e rm_X10_hoursWithOneMore s m args below meth c H locs 0 0 Q (F0 m 12 ls []) := by
  unfold b_X10_hoursWithOneMore_12 at hok
  refine lv_iload fx.1 fx.2.1 dX10_hoursWithOneMore_12 (lv_at hl 4 rfl) ?_
  refine lv_sipush (v := 256) fx.1 fx.2.1 dX10_hoursWithOneMore_14 (by decide) ?_
  refine g_icmp_ge (tgt := 58) fx dX10_hoursWithOneMore_17 (by decide) hok (fun hok => ?_) (fun hok => ?_)
  · exact hx0 x2  _ _ _  hw (lv_sub hl [2] rfl) (gOk_some hok)
  · refine lv_iload_n fx.1 fx.2.1 dX10_hoursWithOneMore_20 rfl (lv_at hl 3 rfl) ?_
    refine g_if_le (tgt := 58) fx dX10_hoursWithOneMore_21 (by decide) hok (fun hok => ?_) (fun hok => ?_)
    · exact hx0 x2  _ _ _  hw (lv_sub hl [2] rfl) (gOk_some hok)
    · refine lv_iload_n fx.1 fx.2.1 dX10_hoursWithOneMore_24 rfl (lv_at hl 2 rfl) ?_
      refine lv_aload_n fx.1 fx.2.1 dX10_hoursWithOneMore_25 rfl (lv_at hl 0 rfl) ?_
      refine g_getr fx hw h0 lf_RX10_64 rfl dX10_hoursWithOneMore_26 hok (fun a3 h_a3 hok => ?_)
      refine lv_iload_n fx.1 fx.2.1 dX10_hoursWithOneMore_29 rfl (lv_at hl 3 rfl) ?_
      refine g_iald fx hw h_a3 dX10_hoursWithOneMore_30 hok (fun hok => ?_)
      refine lv_aload_n fx.1 fx.2.1 dX10_hoursWithOneMore_31 rfl (lv_at hl 0 rfl) ?_
      refine g_getr fx hw h0 lf_RX10_60 rfl dX10_hoursWithOneMore_32 hok (fun a4 h_a4 hok => ?_)
      refine lv_iload_n fx.1 fx.2.1 dX10_hoursWithOneMore_35 rfl (lv_at hl 1 rfl) ?_
      refine lv_iload_n fx.1 fx.2.1 dX10_hoursWithOneMore_36 rfl (lv_at hl 3 rfl) ?_
      refine lv_ixor fx.1 fx.2.1 dX10_hoursWithOneMore_37 ?_
      refine g_iald fx hw h_a4 dX10_hoursWithOneMore_38 hok (fun hok => ?_)
      refine g_mmax fx hl.1 lm_RX10_345 lmst_max lm_init lmco_max ⟨Nat.le_of_ble_eq_true rfl, Nat.le_of_ble_eq_true rfl, Nat.le_of_ble_eq_true rfl, Nat.le_of_ble_eq_true rfl⟩ dX10_hoursWithOneMore_39 ?_
      refine g_mmin fx hl.1 lm_RX10_406 lmst_min lm_init lmco_min ⟨Nat.le_of_ble_eq_true rfl, Nat.le_of_ble_eq_true rfl, Nat.le_of_ble_eq_true rfl, Nat.le_of_ble_eq_true rfl⟩ dX10_hoursWithOneMore_42 ?_
      refine g_leti hok (fun v5 hok => ?_)
      refine lv_istore_n (lv' := [(2, .int v5), (0, .ref x0), (1, .int x1), (3, .int x3), (4, .int x4)]) fx.1 fx.2.1 dX10_hoursWithOneMore_45 rfl hl (by decide) rfl (fun ls hl => ?_)
      refine lv_iload_n fx.1 fx.2.1 dX10_hoursWithOneMore_46 rfl (lv_at hl 3 rfl) ?_
      refine lv_iconst (v := 1) fx.1 fx.2.1 dX10_hoursWithOneMore_47 (by decide) ?_
      refine lv_isub fx.1 fx.2.1 dX10_hoursWithOneMore_48 ?_
      refine lv_iload_n fx.1 fx.2.1 dX10_hoursWithOneMore_49 rfl (lv_at hl 2 rfl) ?_
      refine lv_iand fx.1 fx.2.1 dX10_hoursWithOneMore_50 ?_
      refine g_leti hok (fun v6 hok => ?_)
      refine lv_istore_n (lv' := [(3, .int v6), (2, .int v5), (0, .ref x0), (1, .int x1), (4, .int x4)]) fx.1 fx.2.1 dX10_hoursWithOneMore_51 rfl hl (by decide) rfl (fun ls hl => ?_)
      obtain ⟨v7, e_v7, hok⟩ := gOk_let hok
      refine lv_iinc (v := v7) (lv' := [(4, .int v7), (3, .int v6), (2, .int v5), (0, .ref x0), (1, .int x1)]) fx.1 fx.2.1 dX10_hoursWithOneMore_52 hl (k := 4) rfl (by rw [e_v7]; rfl) (by decide) rfl (fun ls hl => ?_)
      refine lv_goto (tgt := 12) fx.1 fx.2.1 dX10_hoursWithOneMore_55 (by decide) ?_
      exact hc v5 v6 v7  _ _ _  hw (lv_sub hl [3, 4, 2, 1, 0] rfl) (gOk_some hok)
theorem w_l_X10_hoursWithOneMore_12 {X : gX} {τ : gτ} {p : Program} {l : Launch} {e : Env} {s : State} {m : MethodId} {args : Array Value} {below : List Frame} {meth : Method} {c : Code} (fx : gFx X p s m args meth c cX10_hoursWithOneMore 5 RX10) (n : Nat) (x0 : Nat) (x1 : Int32) (h0 : gK τ x0 10) (G : gG) {Q : State → Prop} {K : ((Int32)) → Prop} (hx0 : ∀ (y2 : Int32) (H : Heap) (locs : List Loc) (ls : Array Slot), gHw X τ G H locs → lv_has ls 5 [(2, .int y2)] → K y2 → W p l e rm_X10_hoursWithOneMore s m args below meth c H locs 0 0 Q (F0 m 58 ls [])) : ∀ (k : Nat) (x2 : Int32) (x3 : Int32) (x4 : Int32) (H : Heap) (locs : List Loc) (ls : Array Slot), gHw X τ G H locs → lv_has ls 5 [(0, .ref x0), (1, .int x1), (2, .int x2), (3, .int x3), (4, .int x4)] → gOk (gIter (fun (q : Int32 × Int32 × Int32) => b_X10_hoursWithOneMore_12 τ n x0 x1 q.1 q.2.1 q.2.2 G) k (x2, x3, x4)) K → W p l e rm_X10_hoursWithOneMore s m args below meth c H locs 0 0 Q (F0 m 12 ls []) := by
  intro k
  induction k with
  | zero =>
    intro x2 x3 x4  H locs ls hw hl hok
    exact gOk_iter0 hok
  | succ k hc =>
    intro x2 x3 x4  H locs ls hw hl hok
    exact w_b_X10_hoursWithOneMore_12 fx n x0 x1 x2 x3 x4 h0 hw hl (gOk_iter hok) hc hx0
set_option maxHeartbeats 4000000 in
set_option maxRecDepth 100000 in
theorem c_X10_hoursWithOneMore (l : Launch) (X : gX) (τ : gτ) (n : Nat) (x0 : Nat) (x1 : Int32) (G : gG) (h0 : gK τ x0 10) {r : Int32}  (h : f_X10_hoursWithOneMore τ n x0 x1 G = some r) : gM l X τ yX10_hoursWithOneMore cX10_hoursWithOneMore 5 (some .int) rm_X10_hoursWithOneMore [.ref x0, .int x1] G (some (.int r)) G := by
  refine g_body (by decide +kernel) (Nat.le_of_ble_eq_true rfl) ?_
  intro p e s m args below meth c ls fx hr hw hl
  have fx : gFx X p s m args meth c cX10_hoursWithOneMore 5 RX10 := fx
  have hl : lv_has ls 5 [(0, .ref x0), (1, .int x1)] := hl
  have hok : gOk (f_X10_hoursWithOneMore τ n x0 x1 G) (fun q => q = r) := ⟨_, h, rfl⟩
  unfold f_X10_hoursWithOneMore at hok
  show W p l e rm_X10_hoursWithOneMore s m args below meth c s.heap [] 0 0 (MQ below (gQ X τ (some (.int r)) G) args s 0 0 (gFree X)) _
  refine lv_aload_n fx.1 fx.2.1 dX10_hoursWithOneMore_0 rfl (lv_at hl 0 rfl) ?_
  refine g_getr fx hw h0 lf_RX10_60 rfl dX10_hoursWithOneMore_1 hok (fun a1 h_a1 hok => ?_)
  refine lv_iload_n fx.1 fx.2.1 dX10_hoursWithOneMore_4 rfl (lv_at hl 1 rfl) ?_
  refine g_iald fx hw h_a1 dX10_hoursWithOneMore_5 hok (fun hok => ?_)
  refine g_leti hok (fun v2 hok => ?_)
  refine lv_istore_n (lv' := [(2, .int v2), (0, .ref x0), (1, .int x1)]) fx.1 fx.2.1 dX10_hoursWithOneMore_6 rfl hl (by decide) rfl (fun ls hl => ?_)
  refine lv_iload_n fx.1 fx.2.1 dX10_hoursWithOneMore_7 rfl (lv_at hl 2 rfl) ?_
  refine lv_istore_n (lv' := [(3, .int x1), (2, .int v2), (0, .ref x0), (1, .int x1)]) fx.1 fx.2.1 dX10_hoursWithOneMore_8 rfl hl (by decide) rfl (fun ls hl => ?_)
  refine lv_iconst (v := 0) fx.1 fx.2.1 dX10_hoursWithOneMore_9 (by decide) ?_
  refine lv_istore (lv' := [(4, .int (0 : Int32)), (3, .int x1), (2, .int v2), (0, .ref x0), (1, .int x1)]) fx.1 fx.2.1 dX10_hoursWithOneMore_10 hl (by decide) rfl (fun ls hl => ?_)
  refine w_l_X10_hoursWithOneMore_12 fx n x0 x1 h0 G ?_ n v2 x1 (0 : Int32)  _ _ _  hw (lv_sub hl [3, 4, 2, 1, 0] rfl) (gOk_bindK hok)
  intro z8  H locs ls hw hl hok
  have hok : gOk (ρ := Int32) (some (z8)) _ := hok
  refine lv_iload_n fx.1 fx.2.1 dX10_hoursWithOneMore_58 rfl (lv_at hl 0 rfl) ?_
  cases gOk_some hok
  exact g_iret fx hw hr dX10_hoursWithOneMore_59
theorem dX10_walks_0 : decode cX10_walks 0 = .ok (.iload_n 1, 1) := by decide +kernel
theorem dX10_walks_1 : decode cX10_walks 1 = .ok (.iconst 1, 1) := by decide +kernel
theorem dX10_walks_2 : decode cX10_walks 2 = .ok (.iconst 5, 1) := by decide +kernel
theorem dX10_walks_3 : decode cX10_walks 3 = .ok (.invokestatic 224, 3) := by decide +kernel
theorem dX10_walks_6 : decode cX10_walks 6 = .ok (.iconst 1, 1) := by decide +kernel
theorem dX10_walks_7 : decode cX10_walks 7 = .ok (.aload_n 0, 1) := by decide +kernel
theorem dX10_walks_8 : decode cX10_walks 8 = .ok (.getfield 70, 3) := by decide +kernel
theorem dX10_walks_11 : decode cX10_walks 11 = .ok (.getfield 332, 3) := by decide +kernel
theorem dX10_walks_14 : decode cX10_walks 14 = .ok (.ishl, 1) := by decide +kernel
theorem dX10_walks_15 : decode cX10_walks 15 = .ok (.istore_n 2, 1) := by decide +kernel
theorem dX10_walks_16 : decode cX10_walks 16 = .ok (.iconst 0, 1) := by decide +kernel
theorem dX10_walks_17 : decode cX10_walks 17 = .ok (.istore_n 3, 1) := by decide +kernel
theorem dX10_walks_18 : decode cX10_walks 18 = .ok (.iload_n 3, 1) := by decide +kernel
theorem dX10_walks_19 : decode cX10_walks 19 = .ok (.iload_n 2, 1) := by decide +kernel
theorem dX10_walks_20 : decode cX10_walks 20 = .ok (.if_icmp .ge 35, 3) := by decide +kernel
theorem dX10_walks_23 : decode cX10_walks 23 = .ok (.aload_n 0, 1) := by decide +kernel
theorem dX10_walks_24 : decode cX10_walks 24 = .ok (.getfield 64, 3) := by decide +kernel
theorem dX10_walks_27 : decode cX10_walks 27 = .ok (.iload_n 3, 1) := by decide +kernel
theorem dX10_walks_28 : decode cX10_walks 28 = .ok (.aload_n 0, 1) := by decide +kernel
theorem dX10_walks_29 : decode cX10_walks 29 = .ok (.getfield 70, 3) := by decide +kernel
theorem dX10_walks_32 : decode cX10_walks 32 = .ok (.iload_n 3, 1) := by decide +kernel
theorem dX10_walks_33 : decode cX10_walks 33 = .ok (.invokevirtual 358, 3) := by decide +kernel
theorem dX10_walks_36 : decode cX10_walks 36 = .ok (.iastore, 1) := by decide +kernel
theorem dX10_walks_37 : decode cX10_walks 37 = .ok (.aload_n 0, 1) := by decide +kernel
theorem dX10_walks_38 : decode cX10_walks 38 = .ok (.getfield 60, 3) := by decide +kernel
theorem dX10_walks_41 : decode cX10_walks 41 = .ok (.iload_n 3, 1) := by decide +kernel
theorem dX10_walks_42 : decode cX10_walks 42 = .ok (.aload_n 0, 1) := by decide +kernel
theorem dX10_walks_43 : decode cX10_walks 43 = .ok (.getfield 64, 3) := by decide +kernel
theorem dX10_walks_46 : decode cX10_walks 46 = .ok (.iload_n 3, 1) := by decide +kernel
theorem dX10_walks_47 : decode cX10_walks 47 = .ok (.iaload, 1) := by decide +kernel
theorem dX10_walks_48 : decode cX10_walks 48 = .ok (.iastore, 1) := by decide +kernel
theorem dX10_walks_49 : decode cX10_walks 49 = .ok (.iinc 3 1, 3) := by decide +kernel
theorem dX10_walks_52 : decode cX10_walks 52 = .ok (.goto (-34), 3) := by decide +kernel
theorem dX10_walks_55 : decode cX10_walks 55 = .ok (.iconst 2, 1) := by decide +kernel
theorem dX10_walks_56 : decode cX10_walks 56 = .ok (.istore_n 3, 1) := by decide +kernel
theorem dX10_walks_57 : decode cX10_walks 57 = .ok (.iload_n 3, 1) := by decide +kernel
theorem dX10_walks_58 : decode cX10_walks 58 = .ok (.iload_n 1, 1) := by decide +kernel
theorem dX10_walks_59 : decode cX10_walks 59 = .ok (.if_icmp .gt 38, 3) := by decide +kernel
theorem dX10_walks_62 : decode cX10_walks 62 = .ok (.iload_n 2, 1) := by decide +kernel
theorem dX10_walks_63 : decode cX10_walks 63 = .ok (.iconst 1, 1) := by decide +kernel
theorem dX10_walks_64 : decode cX10_walks 64 = .ok (.isub, 1) := by decide +kernel
theorem dX10_walks_65 : decode cX10_walks 65 = .ok (.istore 4, 2) := by decide +kernel
theorem dX10_walks_67 : decode cX10_walks 67 = .ok (.iload 4, 2) := by decide +kernel
theorem dX10_walks_69 : decode cX10_walks 69 = .ok (.ifCond .le 22, 3) := by decide +kernel
theorem dX10_walks_72 : decode cX10_walks 72 = .ok (.aload_n 0, 1) := by decide +kernel
theorem dX10_walks_73 : decode cX10_walks 73 = .ok (.getfield 60, 3) := by decide +kernel
theorem dX10_walks_76 : decode cX10_walks 76 = .ok (.iload 4, 2) := by decide +kernel
theorem dX10_walks_78 : decode cX10_walks 78 = .ok (.aload_n 0, 1) := by decide +kernel
theorem dX10_walks_79 : decode cX10_walks 79 = .ok (.iload 4, 2) := by decide +kernel
theorem dX10_walks_81 : decode cX10_walks 81 = .ok (.invokevirtual 361, 3) := by decide +kernel
theorem dX10_walks_84 : decode cX10_walks 84 = .ok (.iastore, 1) := by decide +kernel
theorem dX10_walks_85 : decode cX10_walks 85 = .ok (.iinc 4 (-1), 3) := by decide +kernel
theorem dX10_walks_88 : decode cX10_walks 88 = .ok (.goto (-21), 3) := by decide +kernel
theorem dX10_walks_91 : decode cX10_walks 91 = .ok (.iinc 3 1, 3) := by decide +kernel
theorem dX10_walks_94 : decode cX10_walks 94 = .ok (.goto (-37), 3) := by decide +kernel
theorem dX10_walks_97 : decode cX10_walks 97 = .ok (.aload_n 0, 1) := by decide +kernel
theorem dX10_walks_98 : decode cX10_walks 98 = .ok (.getfield 60, 3) := by decide +kernel
theorem dX10_walks_101 : decode cX10_walks 101 = .ok (.iload_n 2, 1) := by decide +kernel
theorem dX10_walks_102 : decode cX10_walks 102 = .ok (.iconst 1, 1) := by decide +kernel
theorem dX10_walks_103 : decode cX10_walks 103 = .ok (.isub, 1) := by decide +kernel
theorem dX10_walks_104 : decode cX10_walks 104 = .ok (.iaload, 1) := by decide +kernel
theorem dX10_walks_105 : decode cX10_walks 105 = .ok (.ireturn, 1) := by decide +kernel
theorem lv_RX10_361 : gLv RX10 361 RX10 yX10_hoursWithOneMore cX10_hoursWithOneMore 5 (some .int) 1 := gLv_of (wA_t (wt6 (List.mem_of_getElem? (i := 57) (by decide +kernel))) (by decide +kernel)) (wA_t (wt6 (List.mem_of_getElem? (i := 59) (by decide +kernel))) (by decide +kernel)) (wA_of (List.mem_append_left _ (List.mem_map.mpr ⟨(⟨"YearRope", "hoursWithOneMore", "(I)I"⟩, 15), wp3 (List.mem_of_getElem? (i := 1) (by decide +kernel)), rfl⟩)) (by decide +kernel)) (wA_t (wt1 (List.mem_of_getElem? (i := 1) (by decide +kernel))) (by decide +kernel)) (wA_t (wt6 (List.mem_of_getElem? (i := 60) (by decide +kernel))) (by decide +kernel)) ⟨rfl, by decide +kernel, by decide +kernel, by decide +kernel⟩
def rm_X10_walks : Room := { frames := 7, cells := 1, slots := 6, locals := 142 }
def b_X10_walks_18 (τ : gτ) (n : Nat) (x0 : Nat) (x1 : Int32) (x2 : Int32) (x3 : Int32) (G : gG) : Option ((Int32 × gG) ⊕ ((gG))) :=
  if x2 ≤ x3 then (some (.inr G))
  else ((gr G 10 8 x0).bind fun a4 =>
  (gr G 10 10 x0).bind fun a5 =>
  (f_X6_fathomsOf τ n a5 x3 G).bind fun v6 =>
  gchk (gIn x3 (gn τ a4)) <| gLet (gse G a4 (Int32.toNatClampNeg x3) v6) fun G7 =>
  (gr G7 10 7 x0).bind fun a8 =>
  (gr G7 10 8 x0).bind fun a9 =>
  gchk (gIn x3 (gn τ a9)) <|
  gchk (gIn x3 (gn τ a8)) <| gLet (gse G7 a8 (Int32.toNatClampNeg x3) (ge G7 a9 (Int32.toNatClampNeg x3))) fun G10 =>
  gLet (x3 + 1) fun v11 =>
  some (.inl (v11, G10)))
def l_X10_walks_18 (τ : gτ) (n : Nat) (x0 : Nat) (x1 : Int32) (x2 : Int32) (x3 : Int32) (G : gG) : Option ((gG)) :=
  gIter (fun (q : Int32 × gG) => b_X10_walks_18 τ n x0 x1 x2 q.1 q.2) n (x3, G)
def b_X10_walks_67 (τ : gτ) (n : Nat) (x0 : Nat) (x1 : Int32) (x2 : Int32) (x3 : Int32) (x4 : Int32) (G : gG) : Option ((Int32 × gG) ⊕ ((gG))) :=
  if x4 ≤ 0 then (some (.inr G))
  else ((gr G 10 7 x0).bind fun a14 =>
  (f_X10_hoursWithOneMore τ n x0 x4 G).bind fun v15 =>
  gchk (gIn x4 (gn τ a14)) <| gLet (gse G a14 (Int32.toNatClampNeg x4) v15) fun G16 =>
  gLet (x4 + (-1)) fun v17 =>
  some (.inl (v17, G16)))
def l_X10_walks_67 (τ : gτ) (n : Nat) (x0 : Nat) (x1 : Int32) (x2 : Int32) (x3 : Int32) (x4 : Int32) (G : gG) : Option ((gG)) :=
  gIter (fun (q : Int32 × gG) => b_X10_walks_67 τ n x0 x1 x2 x3 q.1 q.2) n (x4, G)
def b_X10_walks_57 (τ : gτ) (n : Nat) (x0 : Nat) (x1 : Int32) (x2 : Int32) (x3 : Int32) (G : gG) : Option ((Int32 × gG) ⊕ ((gG))) :=
  if x1 < x3 then (some (.inr G))
  else (gLet (x2 - (1 : Int32)) fun v13 =>
  (l_X10_walks_67 τ n x0 x1 x2 x3 v13 G).bind fun q => gLet q fun G18 => 
  gLet (x3 + 1) fun v19 =>
  some (.inl (v19, G18)))
def l_X10_walks_57 (τ : gτ) (n : Nat) (x0 : Nat) (x1 : Int32) (x2 : Int32) (x3 : Int32) (G : gG) : Option ((gG)) :=
  gIter (fun (q : Int32 × gG) => b_X10_walks_57 τ n x0 x1 x2 q.1 q.2) n (x3, G)
def k_X10_walks_97 (τ : gτ) (n : Nat) (x0 : Nat) (x2 : Int32)  (G : gG) : Option ((String ⊕ Int32) × gG) :=
  (gr G 10 7 x0).bind fun a21 =>
  gchk (gIn (x2 - (1 : Int32)) (gn τ a21)) <|
  some (.inr (ge G a21 (Int32.toNatClampNeg (x2 - (1 : Int32)))), G)
def k_X10_walks_55 (τ : gτ) (n : Nat) (x0 : Nat) (x1 : Int32) (x2 : Int32)  (G : gG) : Option ((String ⊕ Int32) × gG) :=
  (l_X10_walks_57 τ n x0 x1 x2 (2 : Int32) G).bind fun q => gLet q fun G20 => 
  k_X10_walks_97 τ n x0 x2  G20
def f_X10_walks (τ : gτ) (n : Nat) (x0 : Nat) (x1 : Int32) (G : gG) : Option ((String ⊕ Int32) × gG) :=
  gBindX (f_X10_needWithin x1 (1 : Int32) (5 : Int32) G) fun _ G1 =>
  (gr G1 10 10 x0).bind fun a2 =>
  gLet ((1 : Int32) <<< ((gi G1 6 6 a2) &&& 31)) fun v3 =>
  (l_X10_walks_18 τ n x0 x1 v3 (0 : Int32) G1).bind fun q => gLet q fun G12 => 
  k_X10_walks_55 τ n x0 x1 v3  G12
set_option maxHeartbeats 4000000 in
set_option maxRecDepth 100000 in
theorem w_b_X10_walks_18 {X : gX} {τ : gτ} {p : Program} {l : Launch} {e : Env} {s : State} {m : MethodId} {args : Array Value} {below : List Frame} {meth : Method} {c : Code} (fx : gFx X p s m args meth c cX10_walks 5 RX10) (hS : gS0 l X) (hxt : ∀ x ∈ c.exceptionTable.toList, False) (n : Nat) (x0 : Nat) (x1 : Int32) (x2 : Int32) (x3 : Int32) (h0 : gK τ x0 10) {Q : State → Prop} {K : ((Int32 × gG) ⊕ ((gG))) → Prop} {G : gG} {H : Heap} {locs : List Loc} {ls : Array Slot} (hw : gHw X τ G H locs) (hl : lv_has ls 5 [(0, .ref x0), (1, .int x1), (2, .int x2), (3, .int x3)]) (hok : gOk (b_X10_walks_18 τ n x0 x1 x2 x3 G) K) (hc : ∀ (y3 : Int32) (G : gG) (H : Heap) (locs : List Loc) (ls : Array Slot), gHw X τ G H locs → lv_has ls 5 [(0, .ref x0), (1, .int x1), (2, .int x2), (3, .int y3)] → K (.inl (y3, G)) → W p l e rm_X10_walks s m args below meth c H locs 1 6 Q (F0 m 18 ls [])) (hx0 : ∀ (G : gG) (H : Heap) (locs : List Loc) (ls : Array Slot), gHw X τ G H locs → lv_has ls 5 [(0, .ref x0), (1, .int x1), (2, .int x2)] → K (.inr G) → W p l e rm_X10_walks s m args below meth c H locs 1 6 Q (F0 m 55 ls [])) : W p l e rm_X10_walks s m args below meth c H locs 1 6 Q (F0 m 18 ls []) := by
  unfold b_X10_walks_18 at hok
  refine lv_iload_n fx.1 fx.2.1 dX10_walks_18 rfl (lv_at hl 3 rfl) ?_
  refine lv_iload_n fx.1 fx.2.1 dX10_walks_19 rfl (lv_at hl 2 rfl) ?_
  refine g_icmp_ge (tgt := 55) fx dX10_walks_20 (by decide) hok (fun hok => ?_) (fun hok => ?_)
  · exact hx0  G _ _ _  hw (lv_sub hl [0, 1, 2] rfl) (gOk_some hok)
  · refine lv_aload_n fx.1 fx.2.1 dX10_walks_23 rfl (lv_at hl 0 rfl) ?_
    refine g_getr fx hw h0 lf_RX10_64 rfl dX10_walks_24 hok (fun a4 h_a4 hok => ?_)
    refine lv_iload_n fx.1 fx.2.1 dX10_walks_27 rfl (lv_at hl 3 rfl) ?_
    refine lv_aload_n fx.1 fx.2.1 dX10_walks_28 rfl (lv_at hl 0 rfl) ?_
    refine g_getr fx hw h0 lf_RX10_70 rfl dX10_walks_29 hok (fun a5 h_a5 hok => ?_)
    refine lv_iload_n fx.1 fx.2.1 dX10_walks_32 rfl (lv_at hl 3 rfl) ?_
    obtain ⟨v6, hf, hok⟩ := gOk_bind hok
    refine g_callV0 (κ := 6) fx hw (c_X6_fathomsOf l X τ n a5 x3 G h_a5 hf) lv_RX10_358 ⟨rfl, rfl⟩ rfl rfl h_a5 rfl hl.1 rfl ⟨Nat.le_of_ble_eq_true rfl, Nat.le_of_ble_eq_true rfl⟩ (Nat.le_of_ble_eq_true rfl) ⟨Nat.le_of_ble_eq_true rfl, Nat.le_of_ble_eq_true rfl⟩ dX10_walks_33 (fun H locs hw => ?_)
    refine g_iast fx hw h_a4 dX10_walks_36 hok (fun G7 H locs hw hok => ?_)
    refine lv_aload_n fx.1 fx.2.1 dX10_walks_37 rfl (lv_at hl 0 rfl) ?_
    refine g_getr fx hw h0 lf_RX10_60 rfl dX10_walks_38 hok (fun a8 h_a8 hok => ?_)
    refine lv_iload_n fx.1 fx.2.1 dX10_walks_41 rfl (lv_at hl 3 rfl) ?_
    refine lv_aload_n fx.1 fx.2.1 dX10_walks_42 rfl (lv_at hl 0 rfl) ?_
    refine g_getr fx hw h0 lf_RX10_64 rfl dX10_walks_43 hok (fun a9 h_a9 hok => ?_)
    refine lv_iload_n fx.1 fx.2.1 dX10_walks_46 rfl (lv_at hl 3 rfl) ?_
    refine g_iald fx hw h_a9 dX10_walks_47 hok (fun hok => ?_)
    refine g_iast fx hw h_a8 dX10_walks_48 hok (fun G10 H locs hw hok => ?_)
    obtain ⟨v11, e_v11, hok⟩ := gOk_let hok
    refine lv_iinc (v := v11) (lv' := [(3, .int v11), (0, .ref x0), (1, .int x1), (2, .int x2)]) fx.1 fx.2.1 dX10_walks_49 hl (k := 3) rfl (by rw [e_v11]; rfl) (by decide) rfl (fun ls hl => ?_)
    refine lv_goto (tgt := 18) fx.1 fx.2.1 dX10_walks_52 (by decide) ?_
    exact hc v11 G10 _ _ _  hw (lv_sub hl [1, 2, 3, 0] rfl) (gOk_some hok)
theorem w_l_X10_walks_18 {X : gX} {τ : gτ} {p : Program} {l : Launch} {e : Env} {s : State} {m : MethodId} {args : Array Value} {below : List Frame} {meth : Method} {c : Code} (fx : gFx X p s m args meth c cX10_walks 5 RX10) (hS : gS0 l X) (hxt : ∀ x ∈ c.exceptionTable.toList, False) (n : Nat) (x0 : Nat) (x1 : Int32) (x2 : Int32) (h0 : gK τ x0 10) {Q : State → Prop} {K : ((gG)) → Prop} (hx0 : ∀ (G : gG) (H : Heap) (locs : List Loc) (ls : Array Slot), gHw X τ G H locs → lv_has ls 5 [(0, .ref x0), (1, .int x1), (2, .int x2)] → K G → W p l e rm_X10_walks s m args below meth c H locs 1 6 Q (F0 m 55 ls [])) : ∀ (k : Nat) (x3 : Int32) (G : gG) (H : Heap) (locs : List Loc) (ls : Array Slot), gHw X τ G H locs → lv_has ls 5 [(0, .ref x0), (1, .int x1), (2, .int x2), (3, .int x3)] → gOk (gIter (fun (q : Int32 × gG) => b_X10_walks_18 τ n x0 x1 x2 q.1 q.2) k (x3, G)) K → W p l e rm_X10_walks s m args below meth c H locs 1 6 Q (F0 m 18 ls []) := by
  intro k
  induction k with
  | zero =>
    intro x3 G H locs ls hw hl hok
    exact gOk_iter0 hok
  | succ k hc =>
    intro x3 G H locs ls hw hl hok
    exact w_b_X10_walks_18 fx hS hxt n x0 x1 x2 x3 h0 hw hl (gOk_iter hok) hc hx0
set_option maxHeartbeats 4000000 in
set_option maxRecDepth 100000 in
theorem w_b_X10_walks_67 {X : gX} {τ : gτ} {p : Program} {l : Launch} {e : Env} {s : State} {m : MethodId} {args : Array Value} {below : List Frame} {meth : Method} {c : Code} (fx : gFx X p s m args meth c cX10_walks 5 RX10) (hS : gS0 l X) (hxt : ∀ x ∈ c.exceptionTable.toList, False) (n : Nat) (x0 : Nat) (x1 : Int32) (x2 : Int32) (x3 : Int32) (x4 : Int32) (h0 : gK τ x0 10) {Q : State → Prop} {K : ((Int32 × gG) ⊕ ((gG))) → Prop} {G : gG} {H : Heap} {locs : List Loc} {ls : Array Slot} (hw : gHw X τ G H locs) (hl : lv_has ls 5 [(0, .ref x0), (1, .int x1), (2, .int x2), (3, .int x3), (4, .int x4)]) (hok : gOk (b_X10_walks_67 τ n x0 x1 x2 x3 x4 G) K) (hc : ∀ (y4 : Int32) (G : gG) (H : Heap) (locs : List Loc) (ls : Array Slot), gHw X τ G H locs → lv_has ls 5 [(0, .ref x0), (1, .int x1), (2, .int x2), (3, .int x3), (4, .int y4)] → K (.inl (y4, G)) → W p l e rm_X10_walks s m args below meth c H locs 1 6 Q (F0 m 67 ls [])) (hx0 : ∀ (G : gG) (H : Heap) (locs : List Loc) (ls : Array Slot), gHw X τ G H locs → lv_has ls 5 [(0, .ref x0), (1, .int x1), (2, .int x2), (3, .int x3)] → K (.inr G) → W p l e rm_X10_walks s m args below meth c H locs 1 6 Q (F0 m 91 ls [])) : W p l e rm_X10_walks s m args below meth c H locs 1 6 Q (F0 m 67 ls []) := by
  unfold b_X10_walks_67 at hok
  refine lv_iload fx.1 fx.2.1 dX10_walks_67 (lv_at hl 4 rfl) ?_
  refine g_if_le (tgt := 91) fx dX10_walks_69 (by decide) hok (fun hok => ?_) (fun hok => ?_)
  · exact hx0  G _ _ _  hw (lv_sub hl [0, 1, 2, 3] rfl) (gOk_some hok)
  · refine lv_aload_n fx.1 fx.2.1 dX10_walks_72 rfl (lv_at hl 0 rfl) ?_
    refine g_getr fx hw h0 lf_RX10_60 rfl dX10_walks_73 hok (fun a14 h_a14 hok => ?_)
    refine lv_iload fx.1 fx.2.1 dX10_walks_76 (lv_at hl 4 rfl) ?_
    refine lv_aload_n fx.1 fx.2.1 dX10_walks_78 rfl (lv_at hl 0 rfl) ?_
    refine lv_iload fx.1 fx.2.1 dX10_walks_79 (lv_at hl 4 rfl) ?_
    obtain ⟨v15, hf, hok⟩ := gOk_bind hok
    refine g_callV0 (κ := 10) fx hw (c_X10_hoursWithOneMore l X τ n x0 x4 G h0 hf) lv_RX10_361 ⟨rfl, rfl⟩ rfl rfl h0 rfl hl.1 rfl ⟨Nat.le_of_ble_eq_true rfl, Nat.le_of_ble_eq_true rfl⟩ (Nat.le_of_ble_eq_true rfl) ⟨Nat.le_of_ble_eq_true rfl, Nat.le_of_ble_eq_true rfl⟩ dX10_walks_81 (fun H locs hw => ?_)
    refine g_iast fx hw h_a14 dX10_walks_84 hok (fun G16 H locs hw hok => ?_)
    obtain ⟨v17, e_v17, hok⟩ := gOk_let hok
    refine lv_iinc (v := v17) (lv' := [(4, .int v17), (0, .ref x0), (1, .int x1), (2, .int x2), (3, .int x3)]) fx.1 fx.2.1 dX10_walks_85 hl (k := 4) rfl (by rw [e_v17]; rfl) (by decide) rfl (fun ls hl => ?_)
    refine lv_goto (tgt := 67) fx.1 fx.2.1 dX10_walks_88 (by decide) ?_
    exact hc v17 G16 _ _ _  hw (lv_sub hl [1, 2, 3, 4, 0] rfl) (gOk_some hok)
theorem w_l_X10_walks_67 {X : gX} {τ : gτ} {p : Program} {l : Launch} {e : Env} {s : State} {m : MethodId} {args : Array Value} {below : List Frame} {meth : Method} {c : Code} (fx : gFx X p s m args meth c cX10_walks 5 RX10) (hS : gS0 l X) (hxt : ∀ x ∈ c.exceptionTable.toList, False) (n : Nat) (x0 : Nat) (x1 : Int32) (x2 : Int32) (x3 : Int32) (h0 : gK τ x0 10) {Q : State → Prop} {K : ((gG)) → Prop} (hx0 : ∀ (G : gG) (H : Heap) (locs : List Loc) (ls : Array Slot), gHw X τ G H locs → lv_has ls 5 [(0, .ref x0), (1, .int x1), (2, .int x2), (3, .int x3)] → K G → W p l e rm_X10_walks s m args below meth c H locs 1 6 Q (F0 m 91 ls [])) : ∀ (k : Nat) (x4 : Int32) (G : gG) (H : Heap) (locs : List Loc) (ls : Array Slot), gHw X τ G H locs → lv_has ls 5 [(0, .ref x0), (1, .int x1), (2, .int x2), (3, .int x3), (4, .int x4)] → gOk (gIter (fun (q : Int32 × gG) => b_X10_walks_67 τ n x0 x1 x2 x3 q.1 q.2) k (x4, G)) K → W p l e rm_X10_walks s m args below meth c H locs 1 6 Q (F0 m 67 ls []) := by
  intro k
  induction k with
  | zero =>
    intro x4 G H locs ls hw hl hok
    exact gOk_iter0 hok
  | succ k hc =>
    intro x4 G H locs ls hw hl hok
    exact w_b_X10_walks_67 fx hS hxt n x0 x1 x2 x3 x4 h0 hw hl (gOk_iter hok) hc hx0
set_option maxHeartbeats 4000000 in
set_option maxRecDepth 100000 in
theorem w_b_X10_walks_57 {X : gX} {τ : gτ} {p : Program} {l : Launch} {e : Env} {s : State} {m : MethodId} {args : Array Value} {below : List Frame} {meth : Method} {c : Code} (fx : gFx X p s m args meth c cX10_walks 5 RX10) (hS : gS0 l X) (hxt : ∀ x ∈ c.exceptionTable.toList, False) (n : Nat) (x0 : Nat) (x1 : Int32) (x2 : Int32) (x3 : Int32) (h0 : gK τ x0 10) {Q : State → Prop} {K : ((Int32 × gG) ⊕ ((gG))) → Prop} {G : gG} {H : Heap} {locs : List Loc} {ls : Array Slot} (hw : gHw X τ G H locs) (hl : lv_has ls 5 [(0, .ref x0), (1, .int x1), (2, .int x2), (3, .int x3)]) (hok : gOk (b_X10_walks_57 τ n x0 x1 x2 x3 G) K) (hc : ∀ (y3 : Int32) (G : gG) (H : Heap) (locs : List Loc) (ls : Array Slot), gHw X τ G H locs → lv_has ls 5 [(0, .ref x0), (1, .int x1), (2, .int x2), (3, .int y3)] → K (.inl (y3, G)) → W p l e rm_X10_walks s m args below meth c H locs 1 6 Q (F0 m 57 ls [])) (hx0 : ∀ (G : gG) (H : Heap) (locs : List Loc) (ls : Array Slot), gHw X τ G H locs → lv_has ls 5 [(0, .ref x0), (2, .int x2)] → K (.inr G) → W p l e rm_X10_walks s m args below meth c H locs 1 6 Q (F0 m 97 ls [])) : W p l e rm_X10_walks s m args below meth c H locs 1 6 Q (F0 m 57 ls []) := by
  unfold b_X10_walks_57 at hok
  refine lv_iload_n fx.1 fx.2.1 dX10_walks_57 rfl (lv_at hl 3 rfl) ?_
  refine lv_iload_n fx.1 fx.2.1 dX10_walks_58 rfl (lv_at hl 1 rfl) ?_
  refine g_icmp_gt (tgt := 97) fx dX10_walks_59 (by decide) hok (fun hok => ?_) (fun hok => ?_)
  · exact hx0  G _ _ _  hw (lv_sub hl [0, 2] rfl) (gOk_some hok)
  · refine lv_iload_n fx.1 fx.2.1 dX10_walks_62 rfl (lv_at hl 2 rfl) ?_
    refine lv_iconst (v := 1) fx.1 fx.2.1 dX10_walks_63 (by decide) ?_
    refine lv_isub fx.1 fx.2.1 dX10_walks_64 ?_
    refine g_leti hok (fun v13 hok => ?_)
    refine lv_istore (lv' := [(4, .int v13), (0, .ref x0), (1, .int x1), (2, .int x2), (3, .int x3)]) fx.1 fx.2.1 dX10_walks_65 hl (by decide) rfl (fun ls hl => ?_)
    refine w_l_X10_walks_67 fx hS hxt n x0 x1 x2 x3 h0 ?_ n v13 G _ _ _  hw (lv_sub hl [1, 2, 3, 4, 0] rfl) (gOk_bindK hok)
    intro G18 H locs ls hw hl hok
    have hok : gOk (ρ := (Int32 × gG) ⊕ ((gG))) (gLet (x3 + 1) fun v19 =>   some (.inl (v19, G18))) _ := hok
    obtain ⟨v19, e_v19, hok⟩ := gOk_let hok
    refine lv_iinc (v := v19) (lv' := [(3, .int v19), (0, .ref x0), (1, .int x1), (2, .int x2)]) fx.1 fx.2.1 dX10_walks_91 hl (k := 3) rfl (by rw [e_v19]; rfl) (by decide) rfl (fun ls hl => ?_)
    refine lv_goto (tgt := 57) fx.1 fx.2.1 dX10_walks_94 (by decide) ?_
    exact hc v19 G18 _ _ _  hw (lv_sub hl [1, 2, 3, 0] rfl) (gOk_some hok)
theorem w_l_X10_walks_57 {X : gX} {τ : gτ} {p : Program} {l : Launch} {e : Env} {s : State} {m : MethodId} {args : Array Value} {below : List Frame} {meth : Method} {c : Code} (fx : gFx X p s m args meth c cX10_walks 5 RX10) (hS : gS0 l X) (hxt : ∀ x ∈ c.exceptionTable.toList, False) (n : Nat) (x0 : Nat) (x1 : Int32) (x2 : Int32) (h0 : gK τ x0 10) {Q : State → Prop} {K : ((gG)) → Prop} (hx0 : ∀ (G : gG) (H : Heap) (locs : List Loc) (ls : Array Slot), gHw X τ G H locs → lv_has ls 5 [(0, .ref x0), (2, .int x2)] → K G → W p l e rm_X10_walks s m args below meth c H locs 1 6 Q (F0 m 97 ls [])) : ∀ (k : Nat) (x3 : Int32) (G : gG) (H : Heap) (locs : List Loc) (ls : Array Slot), gHw X τ G H locs → lv_has ls 5 [(0, .ref x0), (1, .int x1), (2, .int x2), (3, .int x3)] → gOk (gIter (fun (q : Int32 × gG) => b_X10_walks_57 τ n x0 x1 x2 q.1 q.2) k (x3, G)) K → W p l e rm_X10_walks s m args below meth c H locs 1 6 Q (F0 m 57 ls []) := by
  intro k
  induction k with
  | zero =>
    intro x3 G H locs ls hw hl hok
    exact gOk_iter0 hok
  | succ k hc =>
    intro x3 G H locs ls hw hl hok
    exact w_b_X10_walks_57 fx hS hxt n x0 x1 x2 x3 h0 hw hl (gOk_iter hok) hc hx0
set_option maxHeartbeats 4000000 in
set_option maxRecDepth 100000 in
theorem w_X10_walks_97 {X : gX} {τ : gτ} {p : Program} {l : Launch} {e : Env} {s : State} {m : MethodId} {args : Array Value} {below : List Frame} {meth : Method} {c : Code} (fx : gFx X p s m args meth c cX10_walks 5 RX10) (hS : gS0 l X) (hxt : ∀ x ∈ c.exceptionTable.toList, False) (n : Nat) (x0 : Nat) (x2 : Int32)  (h0 : gK τ x0 10)  (hr : meth.sig.returnType = (some .int)) {r : String ⊕ Int32} {G' : gG} {G : gG} {H : Heap} {locs : List Loc} {ls : Array Slot} (hw : gHw X τ G H locs) (hl : lv_has ls 5 [(0, .ref x0), (2, .int x2)]) (hok : gOk (k_X10_walks_97 τ n x0 x2  G) (fun q => q = (r, G')))  : W p l e rm_X10_walks s m args below meth c H locs 1 6 (vx_MQ below (gQX X τ (gOi r) G') (gXC X τ (gOi r) G') args s rm_X10_walks.cells rm_X10_walks.slots (gFree X)) (F0 m 97 ls []) := by
  unfold k_X10_walks_97 at hok
  refine lv_aload_n fx.1 fx.2.1 dX10_walks_97 rfl (lv_at hl 0 rfl) ?_
  refine g_getr fx hw h0 lf_RX10_60 rfl dX10_walks_98 hok (fun a21 h_a21 hok => ?_)
  refine lv_iload_n fx.1 fx.2.1 dX10_walks_101 rfl (lv_at hl 1 rfl) ?_
  refine lv_iconst (v := 1) fx.1 fx.2.1 dX10_walks_102 (by decide) ?_
  refine lv_isub fx.1 fx.2.1 dX10_walks_103 ?_
  refine g_iald fx hw h_a21 dX10_walks_104 hok (fun hok => ?_)
  cases gOk_some hok
  exact g_iretX fx hw hr ⟨Nat.le_of_ble_eq_true rfl, Nat.le_of_ble_eq_true rfl⟩ dX10_walks_105
set_option maxHeartbeats 4000000 in
set_option maxRecDepth 100000 in
theorem w_X10_walks_55 {X : gX} {τ : gτ} {p : Program} {l : Launch} {e : Env} {s : State} {m : MethodId} {args : Array Value} {below : List Frame} {meth : Method} {c : Code} (fx : gFx X p s m args meth c cX10_walks 5 RX10) (hS : gS0 l X) (hxt : ∀ x ∈ c.exceptionTable.toList, False) (n : Nat) (x0 : Nat) (x1 : Int32) (x2 : Int32)  (h0 : gK τ x0 10)  (hr : meth.sig.returnType = (some .int)) {r : String ⊕ Int32} {G' : gG} {G : gG} {H : Heap} {locs : List Loc} {ls : Array Slot} (hw : gHw X τ G H locs) (hl : lv_has ls 5 [(0, .ref x0), (1, .int x1), (2, .int x2)]) (hok : gOk (k_X10_walks_55 τ n x0 x1 x2  G) (fun q => q = (r, G')))  : W p l e rm_X10_walks s m args below meth c H locs 1 6 (vx_MQ below (gQX X τ (gOi r) G') (gXC X τ (gOi r) G') args s rm_X10_walks.cells rm_X10_walks.slots (gFree X)) (F0 m 55 ls []) := by
  unfold k_X10_walks_55 at hok
  refine lv_iconst (v := 2) fx.1 fx.2.1 dX10_walks_55 (by decide) ?_
  refine lv_istore_n (lv' := [(3, .int (2 : Int32)), (0, .ref x0), (1, .int x1), (2, .int x2)]) fx.1 fx.2.1 dX10_walks_56 rfl hl (by decide) rfl (fun ls hl => ?_)
  refine w_l_X10_walks_57 fx hS hxt n x0 x1 x2 h0 ?_ n (2 : Int32) G _ _ _  hw (lv_sub hl [1, 2, 3, 0] rfl) (gOk_bindK hok)
  intro G20 H locs ls hw hl hok
  have hok : gOk (ρ := (String ⊕ Int32) × gG) (k_X10_walks_97 τ n x0 x2  G20) _ := hok
  exact w_X10_walks_97 fx hS hxt n x0 x2  h0  hr hw (lv_sub hl [0, 1] rfl) hok
set_option maxHeartbeats 4000000 in
set_option maxRecDepth 100000 in
theorem c_X10_walks (l : Launch) (X : gX) (τ : gτ) (n : Nat) (hS : gS0 l X) (x0 : Nat) (x1 : Int32) (G : gG) (h0 : gK τ x0 10) {r : String ⊕ Int32} {G' : gG} (h : f_X10_walks τ n x0 x1 G = some (r, G')) : gMX l X τ yX10_walks cX10_walks 5 (some .int) rm_X10_walks [.ref x0, .int x1] G (gOi r) G' := by
  refine g_bodyX (by decide +kernel) (Nat.le_of_ble_eq_true rfl) ?_
  intro p e s m args below meth c ls fx hr hxt hw hl
  have fx : gFx X p s m args meth c cX10_walks 5 RX10 := fx
  have hl : lv_has ls 5 [(0, .ref x0), (1, .int x1)] := hl
  have hok : gOk (f_X10_walks τ n x0 x1 G) (fun q => q = (r, G')) := ⟨_, h, rfl⟩
  unfold f_X10_walks at hok
  show W p l e rm_X10_walks s m args below meth c s.heap [] 0 0 (vx_MQ below (gQX X τ (gOi r) G') (gXC X τ (gOi r) G') args s rm_X10_walks.cells rm_X10_walks.slots (gFree X)) _
  refine lv_iload_n fx.1 fx.2.1 dX10_walks_0 rfl (lv_at hl 1 rfl) ?_
  refine lv_iconst (v := 1) fx.1 fx.2.1 dX10_walks_1 (by decide) ?_
  refine lv_iconst (v := 5) fx.1 fx.2.1 dX10_walks_2 (by decide) ?_
  rcases gOk_bindX hok with ⟨E, G9, hf, hK⟩ | ⟨u, G1, hf, hok⟩
  · have hK : (Sum.inl E, G9) = (r, G') := hK
    cases hK
    refine g_callSX (As := [.int x1, .int (1 : Int32), .int (5 : Int32)]) fx hw hxt (c_X10_needWithin l X τ hS x1 (1 : Int32) (5 : Int32) G  hf) ls_RX10_224 rfl hl.1 rfl ⟨Nat.le_of_ble_eq_true rfl, Nat.le_of_ble_eq_true rfl⟩ (Nat.le_of_ble_eq_true rfl) ⟨Nat.le_of_ble_eq_true rfl, Nat.le_of_ble_eq_true rfl⟩ ⟨Nat.le_of_ble_eq_true rfl, Nat.le_of_ble_eq_true rfl⟩ dX10_walks_3 (fun u H locs hv hw => ?_) (fun E9 hE => ?_)
    · have hv : (Sum.inl E : String ⊕ Option Value) = Sum.inr u := hv
      cases hv
    · have hE : (Sum.inl E : String ⊕ Option Value) = Sum.inl E9 := hE
      cases hE
      exact ⟨rfl, rfl⟩
  refine g_callSX (As := [.int x1, .int (1 : Int32), .int (5 : Int32)]) fx hw hxt (c_X10_needWithin l X τ hS x1 (1 : Int32) (5 : Int32) G  hf) ls_RX10_224 rfl hl.1 rfl ⟨Nat.le_of_ble_eq_true rfl, Nat.le_of_ble_eq_true rfl⟩ (Nat.le_of_ble_eq_true rfl) ⟨Nat.le_of_ble_eq_true rfl, Nat.le_of_ble_eq_true rfl⟩ ⟨Nat.le_of_ble_eq_true rfl, Nat.le_of_ble_eq_true rfl⟩ dX10_walks_3 (fun u9 H locs hv hw => ?_) (fun E9 hE => by have hE : (Sum.inr none : String ⊕ Option Value) = Sum.inl E9 := hE; cases hE)
  have hv : (Sum.inr none : String ⊕ Option Value) = Sum.inr u9 := hv
  cases hv
  refine lv_iconst (v := 1) fx.1 fx.2.1 dX10_walks_6 (by decide) ?_
  refine lv_aload_n fx.1 fx.2.1 dX10_walks_7 rfl (lv_at hl 0 rfl) ?_
  refine g_getr fx hw h0 lf_RX10_70 rfl dX10_walks_8 hok (fun a2 h_a2 hok => ?_)
  refine g_geti fx hw h_a2 lf_RX10_332 rfl dX10_walks_11 ?_
  refine lv_ishl fx.1 fx.2.1 dX10_walks_14 ?_
  refine g_leti hok (fun v3 hok => ?_)
  refine lv_istore_n (lv' := [(2, .int v3), (0, .ref x0), (1, .int x1)]) fx.1 fx.2.1 dX10_walks_15 rfl hl (by decide) rfl (fun ls hl => ?_)
  refine lv_iconst (v := 0) fx.1 fx.2.1 dX10_walks_16 (by decide) ?_
  refine lv_istore_n (lv' := [(3, .int (0 : Int32)), (2, .int v3), (0, .ref x0), (1, .int x1)]) fx.1 fx.2.1 dX10_walks_17 rfl hl (by decide) rfl (fun ls hl => ?_)
  refine w_l_X10_walks_18 fx hS hxt n x0 x1 v3 h0 ?_ n (0 : Int32) G1 _ _ _  hw (lv_sub hl [2, 3, 1, 0] rfl) (gOk_bindK hok)
  intro G12 H locs ls hw hl hok
  have hok : gOk (ρ := (String ⊕ Int32) × gG) (k_X10_walks_55 τ n x0 x1 v3  G12) _ := hok
  exact w_X10_walks_55 fx hS hxt n x0 x1 v3  h0  hr hw (lv_sub hl [0, 1, 2] rfl) hok
theorem dX10_needShare_0 : decode cX10_needShare 0 = .ok (.aload_n 0, 1) := by decide +kernel
theorem dX10_needShare_1 : decode cX10_needShare 1 = .ok (.iload_n 1, 1) := by decide +kernel
theorem dX10_needShare_2 : decode cX10_needShare 2 = .ok (.invokevirtual 156, 3) := by decide +kernel
theorem dX10_needShare_5 : decode cX10_needShare 5 = .ok (.pop, 1) := by decide +kernel
theorem dX10_needShare_6 : decode cX10_needShare 6 = .ok (.aload_n 0, 1) := by decide +kernel
theorem dX10_needShare_7 : decode cX10_needShare 7 = .ok (.iload_n 2, 1) := by decide +kernel
theorem dX10_needShare_8 : decode cX10_needShare 8 = .ok (.invokevirtual 156, 3) := by decide +kernel
theorem dX10_needShare_11 : decode cX10_needShare 11 = .ok (.pop, 1) := by decide +kernel
theorem dX10_needShare_12 : decode cX10_needShare 12 = .ok (.iload_n 1, 1) := by decide +kernel
theorem dX10_needShare_13 : decode cX10_needShare 13 = .ok (.iload_n 2, 1) := by decide +kernel
theorem dX10_needShare_14 : decode cX10_needShare 14 = .ok (.if_icmp .ne 14, 3) := by decide +kernel
theorem dX10_needShare_17 : decode cX10_needShare 17 = .ok (.new 98, 3) := by decide +kernel
theorem dX10_needShare_20 : decode cX10_needShare 20 = .ok (.dup, 1) := by decide +kernel
theorem dX10_needShare_21 : decode cX10_needShare 21 = .ok (.ldc_w 466, 3) := by decide +kernel
theorem dX10_needShare_24 : decode cX10_needShare 24 = .ok (.invokespecial 102, 3) := by decide +kernel
theorem dX10_needShare_27 : decode cX10_needShare 27 = .ok (.athrow, 1) := by decide +kernel
theorem dX10_needShare_28 : decode cX10_needShare 28 = .ok (.iload_n 3, 1) := by decide +kernel
theorem dX10_needShare_29 : decode cX10_needShare 29 = .ok (.iconst 0, 1) := by decide +kernel
theorem dX10_needShare_30 : decode cX10_needShare 30 = .ok (.sipush 9999, 3) := by decide +kernel
theorem dX10_needShare_33 : decode cX10_needShare 33 = .ok (.invokestatic 224, 3) := by decide +kernel
theorem dX10_needShare_36 : decode cX10_needShare 36 = .ok (.return_, 1) := by decide +kernel
def rm_X10_needShare : Room := { frames := 7, cells := 3, slots := 18, locals := 142 }
def f_X10_needShare (τ : gτ) (x0 : Nat) (x1 : Int32) (x2 : Int32) (x3 : Int32) (G : gG) : Option ((String ⊕ Unit) × gG) :=
  gBindX (f_X10_ropeOf τ x0 x1 G) fun a1 G2 =>
  gchk (gkd τ a1 5) <|
  gBindX (f_X10_ropeOf τ x0 x2 G2) fun a3 G4 =>
  gchk (gkd τ a3 5) <|
  if x1 = x2 then (some (.inl x_IAE, G4))
  else (gBindX (f_X10_needWithin x3 (0 : Int32) (9999 : Int32) G4) fun _ G5 =>
  some (.inr (), G5))
set_option maxHeartbeats 4000000 in
set_option maxRecDepth 100000 in
theorem c_X10_needShare (l : Launch) (X : gX) (τ : gτ) (hS : gS0 l X) (x0 : Nat) (x1 : Int32) (x2 : Int32) (x3 : Int32) (G : gG) (h0 : gK τ x0 10) {r : String ⊕ Unit} {G' : gG} (h : f_X10_needShare τ x0 x1 x2 x3 G = some (r, G')) : gMX l X τ yX10_needShare cX10_needShare 4 none rm_X10_needShare [.ref x0, .int x1, .int x2, .int x3] G (gOv r) G' := by
  refine g_bodyX (by decide +kernel) (Nat.le_of_ble_eq_true rfl) ?_
  intro p e s m args below meth c ls fx hr hxt hw hl
  have fx : gFx X p s m args meth c cX10_needShare 4 RX10 := fx
  have hl : lv_has ls 4 [(0, .ref x0), (1, .int x1), (2, .int x2), (3, .int x3)] := hl
  have hok : gOk (f_X10_needShare τ x0 x1 x2 x3 G) (fun q => q = (r, G')) := ⟨_, h, rfl⟩
  unfold f_X10_needShare at hok
  show W p l e rm_X10_needShare s m args below meth c s.heap [] 0 0 (vx_MQ below (gQX X τ (gOv r) G') (gXC X τ (gOv r) G') args s rm_X10_needShare.cells rm_X10_needShare.slots (gFree X)) _
  refine lv_aload_n fx.1 fx.2.1 dX10_needShare_0 rfl (lv_at hl 0 rfl) ?_
  refine lv_iload_n fx.1 fx.2.1 dX10_needShare_1 rfl (lv_at hl 1 rfl) ?_
  rcases gOk_bindX hok with ⟨E, G9, hf, hK⟩ | ⟨a1, G2, hf, hok⟩
  · have hK : (Sum.inl E, G9) = (r, G') := hK
    cases hK
    refine g_callVX (κ := 10) (As := [.int x1]) fx hw hxt (c_X10_ropeOf l X τ hS x0 x1 G h0 hf) lv_RX10_156 rfl rfl h0 rfl hl.1 rfl ⟨Nat.le_of_ble_eq_true rfl, Nat.le_of_ble_eq_true rfl⟩ (Nat.le_of_ble_eq_true rfl) ⟨Nat.le_of_ble_eq_true rfl, Nat.le_of_ble_eq_true rfl⟩ ⟨Nat.le_of_ble_eq_true rfl, Nat.le_of_ble_eq_true rfl⟩ dX10_needShare_2 (fun u H locs hv hw => ?_) (fun E9 hE => ?_)
    · have hv : (Sum.inl E : String ⊕ Option Value) = Sum.inr u := hv
      cases hv
    · have hE : (Sum.inl E : String ⊕ Option Value) = Sum.inl E9 := hE
      cases hE
      exact ⟨rfl, rfl⟩
  refine g_callVX (κ := 10) (As := [.int x1]) fx hw hxt (c_X10_ropeOf l X τ hS x0 x1 G h0 hf) lv_RX10_156 rfl rfl h0 rfl hl.1 rfl ⟨Nat.le_of_ble_eq_true rfl, Nat.le_of_ble_eq_true rfl⟩ (Nat.le_of_ble_eq_true rfl) ⟨Nat.le_of_ble_eq_true rfl, Nat.le_of_ble_eq_true rfl⟩ ⟨Nat.le_of_ble_eq_true rfl, Nat.le_of_ble_eq_true rfl⟩ dX10_needShare_2 (fun u9 H locs hv hw => ?_) (fun E9 hE => by have hE : (Sum.inr (some (.ref a1)) : String ⊕ Option Value) = Sum.inl E9 := hE; cases hE)
  have hv : (Sum.inr (some (.ref a1)) : String ⊕ Option Value) = Sum.inr u9 := hv
  cases hv
  obtain ⟨h_a1, hok⟩ := gOk_chk hok
  have h_a1 : gK τ a1 5 := gkd_K h_a1
  refine lv_pop fx.1 fx.2.1 dX10_needShare_5 rfl ?_
  refine lv_aload_n fx.1 fx.2.1 dX10_needShare_6 rfl (lv_at hl 0 rfl) ?_
  refine lv_iload_n fx.1 fx.2.1 dX10_needShare_7 rfl (lv_at hl 2 rfl) ?_
  rcases gOk_bindX hok with ⟨E, G9, hf, hK⟩ | ⟨a3, G4, hf, hok⟩
  · have hK : (Sum.inl E, G9) = (r, G') := hK
    cases hK
    refine g_callVX (κ := 10) (As := [.int x2]) fx hw hxt (c_X10_ropeOf l X τ hS x0 x2 G2 h0 hf) lv_RX10_156 rfl rfl h0 rfl hl.1 rfl ⟨Nat.le_of_ble_eq_true rfl, Nat.le_of_ble_eq_true rfl⟩ (Nat.le_of_ble_eq_true rfl) ⟨Nat.le_of_ble_eq_true rfl, Nat.le_of_ble_eq_true rfl⟩ ⟨Nat.le_of_ble_eq_true rfl, Nat.le_of_ble_eq_true rfl⟩ dX10_needShare_8 (fun u H locs hv hw => ?_) (fun E9 hE => ?_)
    · have hv : (Sum.inl E : String ⊕ Option Value) = Sum.inr u := hv
      cases hv
    · have hE : (Sum.inl E : String ⊕ Option Value) = Sum.inl E9 := hE
      cases hE
      exact ⟨rfl, rfl⟩
  refine g_callVX (κ := 10) (As := [.int x2]) fx hw hxt (c_X10_ropeOf l X τ hS x0 x2 G2 h0 hf) lv_RX10_156 rfl rfl h0 rfl hl.1 rfl ⟨Nat.le_of_ble_eq_true rfl, Nat.le_of_ble_eq_true rfl⟩ (Nat.le_of_ble_eq_true rfl) ⟨Nat.le_of_ble_eq_true rfl, Nat.le_of_ble_eq_true rfl⟩ ⟨Nat.le_of_ble_eq_true rfl, Nat.le_of_ble_eq_true rfl⟩ dX10_needShare_8 (fun u9 H locs hv hw => ?_) (fun E9 hE => by have hE : (Sum.inr (some (.ref a3)) : String ⊕ Option Value) = Sum.inl E9 := hE; cases hE)
  have hv : (Sum.inr (some (.ref a3)) : String ⊕ Option Value) = Sum.inr u9 := hv
  cases hv
  obtain ⟨h_a3, hok⟩ := gOk_chk hok
  have h_a3 : gK τ a3 5 := gkd_K h_a3
  refine lv_pop fx.1 fx.2.1 dX10_needShare_11 rfl ?_
  refine lv_iload_n fx.1 fx.2.1 dX10_needShare_12 rfl (lv_at hl 1 rfl) ?_
  refine lv_iload_n fx.1 fx.2.1 dX10_needShare_13 rfl (lv_at hl 2 rfl) ?_
  refine g_icmp_ne (tgt := 28) fx dX10_needShare_14 (by decide) hok (fun hok => ?_) (fun hok => ?_)
  · cases gOk_some hok
    exact g_throwSW fx hw hS hl.1 hxt lx_RX10_98 gt_RX10_466 dX10_needShare_17 dX10_needShare_20 dX10_needShare_21 dX10_needShare_24 dX10_needShare_27 ⟨Nat.le_of_ble_eq_true rfl, Nat.le_of_ble_eq_true rfl, Nat.le_of_ble_eq_true rfl, Nat.le_of_ble_eq_true rfl⟩ ⟨Nat.le_of_ble_eq_true rfl, Nat.le_of_ble_eq_true rfl⟩
  · refine lv_iload_n fx.1 fx.2.1 dX10_needShare_28 rfl (lv_at hl 3 rfl) ?_
    refine lv_iconst (v := 0) fx.1 fx.2.1 dX10_needShare_29 (by decide) ?_
    refine lv_sipush (v := 9999) fx.1 fx.2.1 dX10_needShare_30 (by decide) ?_
    rcases gOk_bindX hok with ⟨E, G9, hf, hK⟩ | ⟨u, G5, hf, hok⟩
    · have hK : (Sum.inl E, G9) = (r, G') := hK
      cases hK
      refine g_callSX (As := [.int x3, .int (0 : Int32), .int (9999 : Int32)]) fx hw hxt (c_X10_needWithin l X τ hS x3 (0 : Int32) (9999 : Int32) G4  hf) ls_RX10_224 rfl hl.1 rfl ⟨Nat.le_of_ble_eq_true rfl, Nat.le_of_ble_eq_true rfl⟩ (Nat.le_of_ble_eq_true rfl) ⟨Nat.le_of_ble_eq_true rfl, Nat.le_of_ble_eq_true rfl⟩ ⟨Nat.le_of_ble_eq_true rfl, Nat.le_of_ble_eq_true rfl⟩ dX10_needShare_33 (fun u H locs hv hw => ?_) (fun E9 hE => ?_)
      · have hv : (Sum.inl E : String ⊕ Option Value) = Sum.inr u := hv
        cases hv
      · have hE : (Sum.inl E : String ⊕ Option Value) = Sum.inl E9 := hE
        cases hE
        exact ⟨rfl, rfl⟩
    refine g_callSX (As := [.int x3, .int (0 : Int32), .int (9999 : Int32)]) fx hw hxt (c_X10_needWithin l X τ hS x3 (0 : Int32) (9999 : Int32) G4  hf) ls_RX10_224 rfl hl.1 rfl ⟨Nat.le_of_ble_eq_true rfl, Nat.le_of_ble_eq_true rfl⟩ (Nat.le_of_ble_eq_true rfl) ⟨Nat.le_of_ble_eq_true rfl, Nat.le_of_ble_eq_true rfl⟩ ⟨Nat.le_of_ble_eq_true rfl, Nat.le_of_ble_eq_true rfl⟩ dX10_needShare_33 (fun u9 H locs hv hw => ?_) (fun E9 hE => by have hE : (Sum.inr none : String ⊕ Option Value) = Sum.inl E9 := hE; cases hE)
    have hv : (Sum.inr none : String ⊕ Option Value) = Sum.inr u9 := hv
    cases hv
    cases gOk_some hok
    exact g_vretX fx hw hr ⟨Nat.le_of_ble_eq_true rfl, Nat.le_of_ble_eq_true rfl⟩ dX10_needShare_36
theorem dX10_bearingOf_0 : decode cX10_bearingOf 0 = .ok (.aload_n 0, 1) := by decide +kernel
theorem dX10_bearingOf_1 : decode cX10_bearingOf 1 = .ok (.getfield 70, 3) := by decide +kernel
theorem dX10_bearingOf_4 : decode cX10_bearingOf 4 = .ok (.aload_n 0, 1) := by decide +kernel
theorem dX10_bearingOf_5 : decode cX10_bearingOf 5 = .ok (.iload_n 1, 1) := by decide +kernel
theorem dX10_bearingOf_6 : decode cX10_bearingOf 6 = .ok (.invokevirtual 156, 3) := by decide +kernel
theorem dX10_bearingOf_9 : decode cX10_bearingOf 9 = .ok (.aload_n 0, 1) := by decide +kernel
theorem dX10_bearingOf_10 : decode cX10_bearingOf 10 = .ok (.getfield 76, 3) := by decide +kernel
theorem dX10_bearingOf_13 : decode cX10_bearingOf 13 = .ok (.invokevirtual 191, 3) := by decide +kernel
theorem dX10_bearingOf_16 : decode cX10_bearingOf 16 = .ok (.ireturn, 1) := by decide +kernel
def rm_X10_bearingOf : Room := { frames := 7, cells := 1, slots := 6, locals := 141 }
def f_X10_bearingOf (τ : gτ) (n : Nat) (x0 : Nat) (x1 : Int32) (G : gG) : Option ((String ⊕ Int32) × gG) :=
  (gr G 10 10 x0).bind fun a1 =>
  gBindX (f_X10_ropeOf τ x0 x1 G) fun a2 G3 =>
  gchk (gkd τ a2 5) <|
  (gr G3 10 12 x0).bind fun a4 =>
  gBind2 (f_X6_bearing τ n a1 a2 a4 G3) fun v5 G6 =>
  some (.inr v5, G6)
set_option maxHeartbeats 4000000 in
set_option maxRecDepth 100000 in
theorem c_X10_bearingOf (l : Launch) (X : gX) (τ : gτ) (n : Nat) (hS : gS0 l X) (x0 : Nat) (x1 : Int32) (G : gG) (h0 : gK τ x0 10) {r : String ⊕ Int32} {G' : gG} (h : f_X10_bearingOf τ n x0 x1 G = some (r, G')) : gMX l X τ yX10_bearingOf cX10_bearingOf 2 (some .int) rm_X10_bearingOf [.ref x0, .int x1] G (gOi r) G' := by
  refine g_bodyX (by decide +kernel) (Nat.le_of_ble_eq_true rfl) ?_
  intro p e s m args below meth c ls fx hr hxt hw hl
  have fx : gFx X p s m args meth c cX10_bearingOf 2 RX10 := fx
  have hl : lv_has ls 2 [(0, .ref x0), (1, .int x1)] := hl
  have hok : gOk (f_X10_bearingOf τ n x0 x1 G) (fun q => q = (r, G')) := ⟨_, h, rfl⟩
  unfold f_X10_bearingOf at hok
  show W p l e rm_X10_bearingOf s m args below meth c s.heap [] 0 0 (vx_MQ below (gQX X τ (gOi r) G') (gXC X τ (gOi r) G') args s rm_X10_bearingOf.cells rm_X10_bearingOf.slots (gFree X)) _
  refine lv_aload_n fx.1 fx.2.1 dX10_bearingOf_0 rfl (lv_at hl 0 rfl) ?_
  refine g_getr fx hw h0 lf_RX10_70 rfl dX10_bearingOf_1 hok (fun a1 h_a1 hok => ?_)
  refine lv_aload_n fx.1 fx.2.1 dX10_bearingOf_4 rfl (lv_at hl 0 rfl) ?_
  refine lv_iload_n fx.1 fx.2.1 dX10_bearingOf_5 rfl (lv_at hl 1 rfl) ?_
  rcases gOk_bindX hok with ⟨E, G9, hf, hK⟩ | ⟨a2, G3, hf, hok⟩
  · have hK : (Sum.inl E, G9) = (r, G') := hK
    cases hK
    refine g_callVX (κ := 10) (As := [.int x1]) fx hw hxt (c_X10_ropeOf l X τ hS x0 x1 G h0 hf) lv_RX10_156 rfl rfl h0 rfl hl.1 rfl ⟨Nat.le_of_ble_eq_true rfl, Nat.le_of_ble_eq_true rfl⟩ (Nat.le_of_ble_eq_true rfl) ⟨Nat.le_of_ble_eq_true rfl, Nat.le_of_ble_eq_true rfl⟩ ⟨Nat.le_of_ble_eq_true rfl, Nat.le_of_ble_eq_true rfl⟩ dX10_bearingOf_6 (fun u H locs hv hw => ?_) (fun E9 hE => ?_)
    · have hv : (Sum.inl E : String ⊕ Option Value) = Sum.inr u := hv
      cases hv
    · have hE : (Sum.inl E : String ⊕ Option Value) = Sum.inl E9 := hE
      cases hE
      exact ⟨rfl, rfl⟩
  refine g_callVX (κ := 10) (As := [.int x1]) fx hw hxt (c_X10_ropeOf l X τ hS x0 x1 G h0 hf) lv_RX10_156 rfl rfl h0 rfl hl.1 rfl ⟨Nat.le_of_ble_eq_true rfl, Nat.le_of_ble_eq_true rfl⟩ (Nat.le_of_ble_eq_true rfl) ⟨Nat.le_of_ble_eq_true rfl, Nat.le_of_ble_eq_true rfl⟩ ⟨Nat.le_of_ble_eq_true rfl, Nat.le_of_ble_eq_true rfl⟩ dX10_bearingOf_6 (fun u9 H locs hv hw => ?_) (fun E9 hE => by have hE : (Sum.inr (some (.ref a2)) : String ⊕ Option Value) = Sum.inl E9 := hE; cases hE)
  have hv : (Sum.inr (some (.ref a2)) : String ⊕ Option Value) = Sum.inr u9 := hv
  cases hv
  obtain ⟨h_a2, hok⟩ := gOk_chk hok
  have h_a2 : gK τ a2 5 := gkd_K h_a2
  refine lv_aload_n fx.1 fx.2.1 dX10_bearingOf_9 rfl (lv_at hl 0 rfl) ?_
  refine g_getr fx hw h0 lf_RX10_76 rfl dX10_bearingOf_10 hok (fun a4 h_a4 hok => ?_)
  obtain ⟨v5, G6, hf, hok⟩ := gOk_bind2 hok
  refine g_callV0 (κ := 6) fx hw (c_X6_bearing l X τ n a1 a2 a4 G3 h_a1 h_a2 h_a4 hf) lv_RX10_191 ⟨rfl, rfl⟩ rfl rfl h_a1 rfl hl.1 rfl ⟨Nat.le_of_ble_eq_true rfl, Nat.le_of_ble_eq_true rfl⟩ (Nat.le_of_ble_eq_true rfl) ⟨Nat.le_of_ble_eq_true rfl, Nat.le_of_ble_eq_true rfl⟩ dX10_bearingOf_13 (fun H locs hw => ?_)
  cases gOk_some hok
  exact g_iretX fx hw hr ⟨Nat.le_of_ble_eq_true rfl, Nat.le_of_ble_eq_true rfl⟩ dX10_bearingOf_16
theorem dX10_firstShare_0 : decode cX10_firstShare 0 = .ok (.iload_n 0, 1) := by decide +kernel
theorem dX10_firstShare_1 : decode cX10_firstShare 1 = .ok (.iload_n 1, 1) := by decide +kernel
theorem dX10_firstShare_2 : decode cX10_firstShare 2 = .ok (.iadd, 1) := by decide +kernel
theorem dX10_firstShare_3 : decode cX10_firstShare 3 = .ok (.istore_n 3, 1) := by decide +kernel
theorem dX10_firstShare_4 : decode cX10_firstShare 4 = .ok (.iload_n 3, 1) := by decide +kernel
theorem dX10_firstShare_5 : decode cX10_firstShare 5 = .ok (.ifCond .le 11, 3) := by decide +kernel
theorem dX10_firstShare_8 : decode cX10_firstShare 8 = .ok (.iload_n 2, 1) := by decide +kernel
theorem dX10_firstShare_9 : decode cX10_firstShare 9 = .ok (.iload_n 0, 1) := by decide +kernel
theorem dX10_firstShare_10 : decode cX10_firstShare 10 = .ok (.imul, 1) := by decide +kernel
theorem dX10_firstShare_11 : decode cX10_firstShare 11 = .ok (.iload_n 3, 1) := by decide +kernel
theorem dX10_firstShare_12 : decode cX10_firstShare 12 = .ok (.idiv, 1) := by decide +kernel
theorem dX10_firstShare_13 : decode cX10_firstShare 13 = .ok (.goto 4, 3) := by decide +kernel
theorem dX10_firstShare_16 : decode cX10_firstShare 16 = .ok (.iconst 0, 1) := by decide +kernel
theorem dX10_firstShare_17 : decode cX10_firstShare 17 = .ok (.ireturn, 1) := by decide +kernel
def rm_X10_firstShare : Room := { frames := 0, cells := 0, slots := 0, locals := 0 }
def f_X10_firstShare (x0 : Int32) (x1 : Int32) (x2 : Int32) : Option (Int32) :=
  gLet (x0 + x1) fun v1 =>
  if v1 ≤ 0 then (some (0))
  else (gchk (¬ v1 = 0) <|
  some ((x2 * x0) / v1))
set_option maxHeartbeats 4000000 in
set_option maxRecDepth 100000 in
theorem c_X10_firstShare (l : Launch) (X : gX) (τ : gτ) (x0 : Int32) (x1 : Int32) (x2 : Int32) (G : gG)  {r : Int32}  (h : f_X10_firstShare x0 x1 x2 = some r) : gM l X τ yX10_firstShare cX10_firstShare 4 (some .int) rm_X10_firstShare [.int x0, .int x1, .int x2] G (some (.int r)) G := by
  refine g_body (by decide +kernel) (Nat.le_of_ble_eq_true rfl) ?_
  intro p e s m args below meth c ls fx hr hw hl
  have fx : gFx X p s m args meth c cX10_firstShare 4 RX10 := fx
  have hl : lv_has ls 4 [(0, .int x0), (1, .int x1), (2, .int x2)] := hl
  have hok : gOk (f_X10_firstShare x0 x1 x2) (fun q => q = r) := ⟨_, h, rfl⟩
  unfold f_X10_firstShare at hok
  show W p l e rm_X10_firstShare s m args below meth c s.heap [] 0 0 (MQ below (gQ X τ (some (.int r)) G) args s 0 0 (gFree X)) _
  refine lv_iload_n fx.1 fx.2.1 dX10_firstShare_0 rfl (lv_at hl 0 rfl) ?_
  refine lv_iload_n fx.1 fx.2.1 dX10_firstShare_1 rfl (lv_at hl 1 rfl) ?_
  refine lv_iadd fx.1 fx.2.1 dX10_firstShare_2 ?_
  refine g_leti hok (fun v1 hok => ?_)
  refine lv_istore_n (lv' := [(3, .int v1), (0, .int x0), (1, .int x1), (2, .int x2)]) fx.1 fx.2.1 dX10_firstShare_3 rfl hl (by decide) rfl (fun ls hl => ?_)
  refine lv_iload_n fx.1 fx.2.1 dX10_firstShare_4 rfl (lv_at hl 0 rfl) ?_
  refine g_if_le (tgt := 16) fx dX10_firstShare_5 (by decide) hok (fun hok => ?_) (fun hok => ?_)
  · refine lv_iconst (v := 0) fx.1 fx.2.1 dX10_firstShare_16 (by decide) ?_
    cases gOk_some hok
    exact g_iret fx hw hr dX10_firstShare_17
  · refine lv_iload_n fx.1 fx.2.1 dX10_firstShare_8 rfl (lv_at hl 3 rfl) ?_
    refine lv_iload_n fx.1 fx.2.1 dX10_firstShare_9 rfl (lv_at hl 1 rfl) ?_
    refine lv_imul fx.1 fx.2.1 dX10_firstShare_10 ?_
    refine lv_iload_n fx.1 fx.2.1 dX10_firstShare_11 rfl (lv_at hl 0 rfl) ?_
    refine g_idiv fx dX10_firstShare_12 hok (fun hok => ?_)
    refine lv_goto (tgt := 17) fx.1 fx.2.1 dX10_firstShare_13 (by decide) ?_
    cases gOk_some hok
    exact g_iret fx hw hr dX10_firstShare_17
theorem dX10_share_0 : decode cX10_share 0 = .ok (.aload_n 0, 1) := by decide +kernel
theorem dX10_share_1 : decode cX10_share 1 = .ok (.iload_n 1, 1) := by decide +kernel
theorem dX10_share_2 : decode cX10_share 2 = .ok (.iload_n 2, 1) := by decide +kernel
theorem dX10_share_3 : decode cX10_share 3 = .ok (.iload_n 3, 1) := by decide +kernel
theorem dX10_share_4 : decode cX10_share 4 = .ok (.invokevirtual 364, 3) := by decide +kernel
theorem dX10_share_7 : decode cX10_share 7 = .ok (.aload_n 0, 1) := by decide +kernel
theorem dX10_share_8 : decode cX10_share 8 = .ok (.iload_n 1, 1) := by decide +kernel
theorem dX10_share_9 : decode cX10_share 9 = .ok (.invokevirtual 367, 3) := by decide +kernel
theorem dX10_share_12 : decode cX10_share 12 = .ok (.aload_n 0, 1) := by decide +kernel
theorem dX10_share_13 : decode cX10_share 13 = .ok (.iload_n 2, 1) := by decide +kernel
theorem dX10_share_14 : decode cX10_share 14 = .ok (.invokevirtual 367, 3) := by decide +kernel
theorem dX10_share_17 : decode cX10_share 17 = .ok (.iload_n 3, 1) := by decide +kernel
theorem dX10_share_18 : decode cX10_share 18 = .ok (.invokestatic 370, 3) := by decide +kernel
theorem dX10_share_21 : decode cX10_share 21 = .ok (.ireturn, 1) := by decide +kernel
theorem lv_RX10_364 : gLv RX10 364 RX10 yX10_needShare cX10_needShare 4 none 3 := gLv_of (wA_t (wt6 (List.mem_of_getElem? (i := 69) (by decide +kernel))) (by decide +kernel)) (wA_t (wt6 (List.mem_of_getElem? (i := 71) (by decide +kernel))) (by decide +kernel)) (wA_of (List.mem_append_left _ (List.mem_map.mpr ⟨(⟨"YearRope", "needShare", "(III)V"⟩, 15), wp3 (List.mem_of_getElem? (i := 2) (by decide +kernel)), rfl⟩)) (by decide +kernel)) (wA_t (wt1 (List.mem_of_getElem? (i := 1) (by decide +kernel))) (by decide +kernel)) (wA_t (wt6 (List.mem_of_getElem? (i := 72) (by decide +kernel))) (by decide +kernel)) ⟨rfl, by decide +kernel, by decide +kernel, by decide +kernel⟩
theorem lv_RX10_367 : gLv RX10 367 RX10 yX10_bearingOf cX10_bearingOf 2 (some .int) 1 := gLv_of (wA_t (wt6 (List.mem_of_getElem? (i := 74) (by decide +kernel))) (by decide +kernel)) (wA_t (wt6 (List.mem_of_getElem? (i := 76) (by decide +kernel))) (by decide +kernel)) (wA_of (List.mem_append_left _ (List.mem_map.mpr ⟨(⟨"YearRope", "bearingOf", "(I)I"⟩, 15), wp3 (List.mem_of_getElem? (i := 3) (by decide +kernel)), rfl⟩)) (by decide +kernel)) (wA_t (wt1 (List.mem_of_getElem? (i := 1) (by decide +kernel))) (by decide +kernel)) (wA_t (wt6 (List.mem_of_getElem? (i := 77) (by decide +kernel))) (by decide +kernel)) ⟨rfl, by decide +kernel, by decide +kernel, by decide +kernel⟩
theorem ls_RX10_370 : gLs RX10 370 yX10_firstShare cX10_firstShare 4 (some .int) 3 := gLs_of (wA_t (wt6 (List.mem_of_getElem? (i := 78) (by decide +kernel))) (by decide +kernel)) (wA_t (wt6 (List.mem_of_getElem? (i := 79) (by decide +kernel))) (by decide +kernel)) (wA_t (wt1 (List.mem_of_getElem? (i := 1) (by decide +kernel))) (by decide +kernel)) (wA_t (wt6 (List.mem_of_getElem? (i := 80) (by decide +kernel))) (by decide +kernel)) ⟨by decide +kernel, by decide +kernel, by decide +kernel⟩
def rm_X10_share : Room := { frames := 8, cells := 5, slots := 30, locals := 165 }
def f_X10_share (τ : gτ) (n : Nat) (x0 : Nat) (x1 : Int32) (x2 : Int32) (x3 : Int32) (G : gG) : Option ((String ⊕ Int32) × gG) :=
  gBindX (f_X10_needShare τ x0 x1 x2 x3 G) fun _ G1 =>
  gBindX (f_X10_bearingOf τ n x0 x1 G1) fun v2 G3 =>
  gBindX (f_X10_bearingOf τ n x0 x2 G3) fun v4 G5 =>
  (f_X10_firstShare v2 v4 x3).bind fun v6 =>
  some (.inr v6, G5)
set_option maxHeartbeats 4000000 in
set_option maxRecDepth 100000 in
theorem c_X10_share (l : Launch) (X : gX) (τ : gτ) (n : Nat) (hS : gS0 l X) (x0 : Nat) (x1 : Int32) (x2 : Int32) (x3 : Int32) (G : gG) (h0 : gK τ x0 10) {r : String ⊕ Int32} {G' : gG} (h : f_X10_share τ n x0 x1 x2 x3 G = some (r, G')) : gMX l X τ yX10_share cX10_share 4 (some .int) rm_X10_share [.ref x0, .int x1, .int x2, .int x3] G (gOi r) G' := by
  refine g_bodyX (by decide +kernel) (Nat.le_of_ble_eq_true rfl) ?_
  intro p e s m args below meth c ls fx hr hxt hw hl
  have fx : gFx X p s m args meth c cX10_share 4 RX10 := fx
  have hl : lv_has ls 4 [(0, .ref x0), (1, .int x1), (2, .int x2), (3, .int x3)] := hl
  have hok : gOk (f_X10_share τ n x0 x1 x2 x3 G) (fun q => q = (r, G')) := ⟨_, h, rfl⟩
  unfold f_X10_share at hok
  show W p l e rm_X10_share s m args below meth c s.heap [] 0 0 (vx_MQ below (gQX X τ (gOi r) G') (gXC X τ (gOi r) G') args s rm_X10_share.cells rm_X10_share.slots (gFree X)) _
  refine lv_aload_n fx.1 fx.2.1 dX10_share_0 rfl (lv_at hl 0 rfl) ?_
  refine lv_iload_n fx.1 fx.2.1 dX10_share_1 rfl (lv_at hl 1 rfl) ?_
  refine lv_iload_n fx.1 fx.2.1 dX10_share_2 rfl (lv_at hl 2 rfl) ?_
  refine lv_iload_n fx.1 fx.2.1 dX10_share_3 rfl (lv_at hl 3 rfl) ?_
  rcases gOk_bindX hok with ⟨E, G9, hf, hK⟩ | ⟨u, G1, hf, hok⟩
  · have hK : (Sum.inl E, G9) = (r, G') := hK
    cases hK
    refine g_callVX (κ := 10) (As := [.int x1, .int x2, .int x3]) fx hw hxt (c_X10_needShare l X τ hS x0 x1 x2 x3 G h0 hf) lv_RX10_364 rfl rfl h0 rfl hl.1 rfl ⟨Nat.le_of_ble_eq_true rfl, Nat.le_of_ble_eq_true rfl⟩ (Nat.le_of_ble_eq_true rfl) ⟨Nat.le_of_ble_eq_true rfl, Nat.le_of_ble_eq_true rfl⟩ ⟨Nat.le_of_ble_eq_true rfl, Nat.le_of_ble_eq_true rfl⟩ dX10_share_4 (fun u H locs hv hw => ?_) (fun E9 hE => ?_)
    · have hv : (Sum.inl E : String ⊕ Option Value) = Sum.inr u := hv
      cases hv
    · have hE : (Sum.inl E : String ⊕ Option Value) = Sum.inl E9 := hE
      cases hE
      exact ⟨rfl, rfl⟩
  refine g_callVX (κ := 10) (As := [.int x1, .int x2, .int x3]) fx hw hxt (c_X10_needShare l X τ hS x0 x1 x2 x3 G h0 hf) lv_RX10_364 rfl rfl h0 rfl hl.1 rfl ⟨Nat.le_of_ble_eq_true rfl, Nat.le_of_ble_eq_true rfl⟩ (Nat.le_of_ble_eq_true rfl) ⟨Nat.le_of_ble_eq_true rfl, Nat.le_of_ble_eq_true rfl⟩ ⟨Nat.le_of_ble_eq_true rfl, Nat.le_of_ble_eq_true rfl⟩ dX10_share_4 (fun u9 H locs hv hw => ?_) (fun E9 hE => by have hE : (Sum.inr none : String ⊕ Option Value) = Sum.inl E9 := hE; cases hE)
  have hv : (Sum.inr none : String ⊕ Option Value) = Sum.inr u9 := hv
  cases hv
  refine lv_aload_n fx.1 fx.2.1 dX10_share_7 rfl (lv_at hl 0 rfl) ?_
  refine lv_iload_n fx.1 fx.2.1 dX10_share_8 rfl (lv_at hl 1 rfl) ?_
  rcases gOk_bindX hok with ⟨E, G9, hf, hK⟩ | ⟨v2, G3, hf, hok⟩
  · have hK : (Sum.inl E, G9) = (r, G') := hK
    cases hK
    refine g_callVX (κ := 10) (As := [.int x1]) fx hw hxt (c_X10_bearingOf l X τ n hS x0 x1 G1 h0 hf) lv_RX10_367 rfl rfl h0 rfl hl.1 rfl ⟨Nat.le_of_ble_eq_true rfl, Nat.le_of_ble_eq_true rfl⟩ (Nat.le_of_ble_eq_true rfl) ⟨Nat.le_of_ble_eq_true rfl, Nat.le_of_ble_eq_true rfl⟩ ⟨Nat.le_of_ble_eq_true rfl, Nat.le_of_ble_eq_true rfl⟩ dX10_share_9 (fun u H locs hv hw => ?_) (fun E9 hE => ?_)
    · have hv : (Sum.inl E : String ⊕ Option Value) = Sum.inr u := hv
      cases hv
    · have hE : (Sum.inl E : String ⊕ Option Value) = Sum.inl E9 := hE
      cases hE
      exact ⟨rfl, rfl⟩
  refine g_callVX (κ := 10) (As := [.int x1]) fx hw hxt (c_X10_bearingOf l X τ n hS x0 x1 G1 h0 hf) lv_RX10_367 rfl rfl h0 rfl hl.1 rfl ⟨Nat.le_of_ble_eq_true rfl, Nat.le_of_ble_eq_true rfl⟩ (Nat.le_of_ble_eq_true rfl) ⟨Nat.le_of_ble_eq_true rfl, Nat.le_of_ble_eq_true rfl⟩ ⟨Nat.le_of_ble_eq_true rfl, Nat.le_of_ble_eq_true rfl⟩ dX10_share_9 (fun u9 H locs hv hw => ?_) (fun E9 hE => by have hE : (Sum.inr (some (.int v2)) : String ⊕ Option Value) = Sum.inl E9 := hE; cases hE)
  have hv : (Sum.inr (some (.int v2)) : String ⊕ Option Value) = Sum.inr u9 := hv
  cases hv
  refine lv_aload_n fx.1 fx.2.1 dX10_share_12 rfl (lv_at hl 0 rfl) ?_
  refine lv_iload_n fx.1 fx.2.1 dX10_share_13 rfl (lv_at hl 2 rfl) ?_
  rcases gOk_bindX hok with ⟨E, G9, hf, hK⟩ | ⟨v4, G5, hf, hok⟩
  · have hK : (Sum.inl E, G9) = (r, G') := hK
    cases hK
    refine g_callVX (κ := 10) (As := [.int x2]) fx hw hxt (c_X10_bearingOf l X τ n hS x0 x2 G3 h0 hf) lv_RX10_367 rfl rfl h0 rfl hl.1 rfl ⟨Nat.le_of_ble_eq_true rfl, Nat.le_of_ble_eq_true rfl⟩ (Nat.le_of_ble_eq_true rfl) ⟨Nat.le_of_ble_eq_true rfl, Nat.le_of_ble_eq_true rfl⟩ ⟨Nat.le_of_ble_eq_true rfl, Nat.le_of_ble_eq_true rfl⟩ dX10_share_14 (fun u H locs hv hw => ?_) (fun E9 hE => ?_)
    · have hv : (Sum.inl E : String ⊕ Option Value) = Sum.inr u := hv
      cases hv
    · have hE : (Sum.inl E : String ⊕ Option Value) = Sum.inl E9 := hE
      cases hE
      exact ⟨rfl, rfl⟩
  refine g_callVX (κ := 10) (As := [.int x2]) fx hw hxt (c_X10_bearingOf l X τ n hS x0 x2 G3 h0 hf) lv_RX10_367 rfl rfl h0 rfl hl.1 rfl ⟨Nat.le_of_ble_eq_true rfl, Nat.le_of_ble_eq_true rfl⟩ (Nat.le_of_ble_eq_true rfl) ⟨Nat.le_of_ble_eq_true rfl, Nat.le_of_ble_eq_true rfl⟩ ⟨Nat.le_of_ble_eq_true rfl, Nat.le_of_ble_eq_true rfl⟩ dX10_share_14 (fun u9 H locs hv hw => ?_) (fun E9 hE => by have hE : (Sum.inr (some (.int v4)) : String ⊕ Option Value) = Sum.inl E9 := hE; cases hE)
  have hv : (Sum.inr (some (.int v4)) : String ⊕ Option Value) = Sum.inr u9 := hv
  cases hv
  refine lv_iload_n fx.1 fx.2.1 dX10_share_17 rfl (lv_at hl 3 rfl) ?_
  obtain ⟨v6, hf, hok⟩ := gOk_bind hok
  refine g_callS0 fx hw (c_X10_firstShare l X τ v2 v4 x3 G5  hf) ls_RX10_370 ⟨rfl, rfl⟩ rfl hl.1 rfl ⟨Nat.le_of_ble_eq_true rfl, Nat.le_of_ble_eq_true rfl⟩ (Nat.le_of_ble_eq_true rfl) ⟨Nat.le_of_ble_eq_true rfl, Nat.le_of_ble_eq_true rfl⟩ dX10_share_18 (fun H locs hw => ?_)
  cases gOk_some hok
  exact g_iretX fx hw hr ⟨Nat.le_of_ble_eq_true rfl, Nat.le_of_ble_eq_true rfl⟩ dX10_share_21
theorem dX10_shared_0 : decode cX10_shared 0 = .ok (.aload_n 0, 1) := by decide +kernel
theorem dX10_shared_1 : decode cX10_shared 1 = .ok (.iload_n 1, 1) := by decide +kernel
theorem dX10_shared_2 : decode cX10_shared 2 = .ok (.iload_n 2, 1) := by decide +kernel
theorem dX10_shared_3 : decode cX10_shared 3 = .ok (.iload_n 3, 1) := by decide +kernel
theorem dX10_shared_4 : decode cX10_shared 4 = .ok (.invokevirtual 364, 3) := by decide +kernel
theorem dX10_shared_7 : decode cX10_shared 7 = .ok (.aload_n 0, 1) := by decide +kernel
theorem dX10_shared_8 : decode cX10_shared 8 = .ok (.iload_n 1, 1) := by decide +kernel
theorem dX10_shared_9 : decode cX10_shared 9 = .ok (.invokevirtual 367, 3) := by decide +kernel
theorem dX10_shared_12 : decode cX10_shared 12 = .ok (.istore 4, 2) := by decide +kernel
theorem dX10_shared_14 : decode cX10_shared 14 = .ok (.aload_n 0, 1) := by decide +kernel
theorem dX10_shared_15 : decode cX10_shared 15 = .ok (.iload_n 2, 1) := by decide +kernel
theorem dX10_shared_16 : decode cX10_shared 16 = .ok (.invokevirtual 367, 3) := by decide +kernel
theorem dX10_shared_19 : decode cX10_shared 19 = .ok (.istore 5, 2) := by decide +kernel
theorem dX10_shared_21 : decode cX10_shared 21 = .ok (.iload 4, 2) := by decide +kernel
theorem dX10_shared_23 : decode cX10_shared 23 = .ok (.iload 5, 2) := by decide +kernel
theorem dX10_shared_25 : decode cX10_shared 25 = .ok (.iload_n 3, 1) := by decide +kernel
theorem dX10_shared_26 : decode cX10_shared 26 = .ok (.invokestatic 370, 3) := by decide +kernel
theorem dX10_shared_29 : decode cX10_shared 29 = .ok (.istore 6, 2) := by decide +kernel
theorem dX10_shared_31 : decode cX10_shared 31 = .ok (.iload 6, 2) := by decide +kernel
theorem dX10_shared_33 : decode cX10_shared 33 = .ok (.iload 4, 2) := by decide +kernel
theorem dX10_shared_35 : decode cX10_shared 35 = .ok (.if_icmp .gt 16, 3) := by decide +kernel
theorem dX10_shared_38 : decode cX10_shared 38 = .ok (.iload_n 3, 1) := by decide +kernel
theorem dX10_shared_39 : decode cX10_shared 39 = .ok (.iload 6, 2) := by decide +kernel
theorem dX10_shared_41 : decode cX10_shared 41 = .ok (.isub, 1) := by decide +kernel
theorem dX10_shared_42 : decode cX10_shared 42 = .ok (.iload 5, 2) := by decide +kernel
theorem dX10_shared_44 : decode cX10_shared 44 = .ok (.if_icmp .gt 7, 3) := by decide +kernel
theorem dX10_shared_47 : decode cX10_shared 47 = .ok (.iconst 1, 1) := by decide +kernel
theorem dX10_shared_48 : decode cX10_shared 48 = .ok (.goto 4, 3) := by decide +kernel
theorem dX10_shared_51 : decode cX10_shared 51 = .ok (.iconst 0, 1) := by decide +kernel
theorem dX10_shared_52 : decode cX10_shared 52 = .ok (.ireturn, 1) := by decide +kernel
def rm_X10_shared : Room := { frames := 8, cells := 5, slots := 30, locals := 165 }
def f_X10_shared (τ : gτ) (n : Nat) (x0 : Nat) (x1 : Int32) (x2 : Int32) (x3 : Int32) (G : gG) : Option ((String ⊕ Int32) × gG) :=
  gBindX (f_X10_needShare τ x0 x1 x2 x3 G) fun _ G1 =>
  gBindX (f_X10_bearingOf τ n x0 x1 G1) fun v2 G3 =>
  gBindX (f_X10_bearingOf τ n x0 x2 G3) fun v4 G5 =>
  (f_X10_firstShare v2 v4 x3).bind fun v6 =>
  if v2 < v6 then (some (.inr (0 : Int32), G5))
  else (if v4 < (x3 - v6) then (some (.inr (0 : Int32), G5))
  else (some (.inr (1 : Int32), G5)))
set_option maxHeartbeats 4000000 in
set_option maxRecDepth 100000 in
theorem c_X10_shared (l : Launch) (X : gX) (τ : gτ) (n : Nat) (hS : gS0 l X) (x0 : Nat) (x1 : Int32) (x2 : Int32) (x3 : Int32) (G : gG) (h0 : gK τ x0 10) {r : String ⊕ Int32} {G' : gG} (h : f_X10_shared τ n x0 x1 x2 x3 G = some (r, G')) : gMX l X τ yX10_shared cX10_shared 7 (some .boolean) rm_X10_shared [.ref x0, .int x1, .int x2, .int x3] G (gOi r) G' := by
  refine g_bodyX (by decide +kernel) (Nat.le_of_ble_eq_true rfl) ?_
  intro p e s m args below meth c ls fx hr hxt hw hl
  have fx : gFx X p s m args meth c cX10_shared 7 RX10 := fx
  have hl : lv_has ls 7 [(0, .ref x0), (1, .int x1), (2, .int x2), (3, .int x3)] := hl
  have hok : gOk (f_X10_shared τ n x0 x1 x2 x3 G) (fun q => q = (r, G')) := ⟨_, h, rfl⟩
  unfold f_X10_shared at hok
  show W p l e rm_X10_shared s m args below meth c s.heap [] 0 0 (vx_MQ below (gQX X τ (gOi r) G') (gXC X τ (gOi r) G') args s rm_X10_shared.cells rm_X10_shared.slots (gFree X)) _
  refine lv_aload_n fx.1 fx.2.1 dX10_shared_0 rfl (lv_at hl 0 rfl) ?_
  refine lv_iload_n fx.1 fx.2.1 dX10_shared_1 rfl (lv_at hl 1 rfl) ?_
  refine lv_iload_n fx.1 fx.2.1 dX10_shared_2 rfl (lv_at hl 2 rfl) ?_
  refine lv_iload_n fx.1 fx.2.1 dX10_shared_3 rfl (lv_at hl 3 rfl) ?_
  rcases gOk_bindX hok with ⟨E, G9, hf, hK⟩ | ⟨u, G1, hf, hok⟩
  · have hK : (Sum.inl E, G9) = (r, G') := hK
    cases hK
    refine g_callVX (κ := 10) (As := [.int x1, .int x2, .int x3]) fx hw hxt (c_X10_needShare l X τ hS x0 x1 x2 x3 G h0 hf) lv_RX10_364 rfl rfl h0 rfl hl.1 rfl ⟨Nat.le_of_ble_eq_true rfl, Nat.le_of_ble_eq_true rfl⟩ (Nat.le_of_ble_eq_true rfl) ⟨Nat.le_of_ble_eq_true rfl, Nat.le_of_ble_eq_true rfl⟩ ⟨Nat.le_of_ble_eq_true rfl, Nat.le_of_ble_eq_true rfl⟩ dX10_shared_4 (fun u H locs hv hw => ?_) (fun E9 hE => ?_)
    · have hv : (Sum.inl E : String ⊕ Option Value) = Sum.inr u := hv
      cases hv
    · have hE : (Sum.inl E : String ⊕ Option Value) = Sum.inl E9 := hE
      cases hE
      exact ⟨rfl, rfl⟩
  refine g_callVX (κ := 10) (As := [.int x1, .int x2, .int x3]) fx hw hxt (c_X10_needShare l X τ hS x0 x1 x2 x3 G h0 hf) lv_RX10_364 rfl rfl h0 rfl hl.1 rfl ⟨Nat.le_of_ble_eq_true rfl, Nat.le_of_ble_eq_true rfl⟩ (Nat.le_of_ble_eq_true rfl) ⟨Nat.le_of_ble_eq_true rfl, Nat.le_of_ble_eq_true rfl⟩ ⟨Nat.le_of_ble_eq_true rfl, Nat.le_of_ble_eq_true rfl⟩ dX10_shared_4 (fun u9 H locs hv hw => ?_) (fun E9 hE => by have hE : (Sum.inr none : String ⊕ Option Value) = Sum.inl E9 := hE; cases hE)
  have hv : (Sum.inr none : String ⊕ Option Value) = Sum.inr u9 := hv
  cases hv
  refine lv_aload_n fx.1 fx.2.1 dX10_shared_7 rfl (lv_at hl 0 rfl) ?_
  refine lv_iload_n fx.1 fx.2.1 dX10_shared_8 rfl (lv_at hl 1 rfl) ?_
  rcases gOk_bindX hok with ⟨E, G9, hf, hK⟩ | ⟨v2, G3, hf, hok⟩
  · have hK : (Sum.inl E, G9) = (r, G') := hK
    cases hK
    refine g_callVX (κ := 10) (As := [.int x1]) fx hw hxt (c_X10_bearingOf l X τ n hS x0 x1 G1 h0 hf) lv_RX10_367 rfl rfl h0 rfl hl.1 rfl ⟨Nat.le_of_ble_eq_true rfl, Nat.le_of_ble_eq_true rfl⟩ (Nat.le_of_ble_eq_true rfl) ⟨Nat.le_of_ble_eq_true rfl, Nat.le_of_ble_eq_true rfl⟩ ⟨Nat.le_of_ble_eq_true rfl, Nat.le_of_ble_eq_true rfl⟩ dX10_shared_9 (fun u H locs hv hw => ?_) (fun E9 hE => ?_)
    · have hv : (Sum.inl E : String ⊕ Option Value) = Sum.inr u := hv
      cases hv
    · have hE : (Sum.inl E : String ⊕ Option Value) = Sum.inl E9 := hE
      cases hE
      exact ⟨rfl, rfl⟩
  refine g_callVX (κ := 10) (As := [.int x1]) fx hw hxt (c_X10_bearingOf l X τ n hS x0 x1 G1 h0 hf) lv_RX10_367 rfl rfl h0 rfl hl.1 rfl ⟨Nat.le_of_ble_eq_true rfl, Nat.le_of_ble_eq_true rfl⟩ (Nat.le_of_ble_eq_true rfl) ⟨Nat.le_of_ble_eq_true rfl, Nat.le_of_ble_eq_true rfl⟩ ⟨Nat.le_of_ble_eq_true rfl, Nat.le_of_ble_eq_true rfl⟩ dX10_shared_9 (fun u9 H locs hv hw => ?_) (fun E9 hE => by have hE : (Sum.inr (some (.int v2)) : String ⊕ Option Value) = Sum.inl E9 := hE; cases hE)
  have hv : (Sum.inr (some (.int v2)) : String ⊕ Option Value) = Sum.inr u9 := hv
  cases hv
  refine lv_istore (lv' := [(4, .int v2), (0, .ref x0), (1, .int x1), (2, .int x2), (3, .int x3)]) fx.1 fx.2.1 dX10_shared_12 hl (by decide) rfl (fun ls hl => ?_)
  refine lv_aload_n fx.1 fx.2.1 dX10_shared_14 rfl (lv_at hl 1 rfl) ?_
  refine lv_iload_n fx.1 fx.2.1 dX10_shared_15 rfl (lv_at hl 3 rfl) ?_
  rcases gOk_bindX hok with ⟨E, G9, hf, hK⟩ | ⟨v4, G5, hf, hok⟩
  · have hK : (Sum.inl E, G9) = (r, G') := hK
    cases hK
    refine g_callVX (κ := 10) (As := [.int x2]) fx hw hxt (c_X10_bearingOf l X τ n hS x0 x2 G3 h0 hf) lv_RX10_367 rfl rfl h0 rfl hl.1 rfl ⟨Nat.le_of_ble_eq_true rfl, Nat.le_of_ble_eq_true rfl⟩ (Nat.le_of_ble_eq_true rfl) ⟨Nat.le_of_ble_eq_true rfl, Nat.le_of_ble_eq_true rfl⟩ ⟨Nat.le_of_ble_eq_true rfl, Nat.le_of_ble_eq_true rfl⟩ dX10_shared_16 (fun u H locs hv hw => ?_) (fun E9 hE => ?_)
    · have hv : (Sum.inl E : String ⊕ Option Value) = Sum.inr u := hv
      cases hv
    · have hE : (Sum.inl E : String ⊕ Option Value) = Sum.inl E9 := hE
      cases hE
      exact ⟨rfl, rfl⟩
  refine g_callVX (κ := 10) (As := [.int x2]) fx hw hxt (c_X10_bearingOf l X τ n hS x0 x2 G3 h0 hf) lv_RX10_367 rfl rfl h0 rfl hl.1 rfl ⟨Nat.le_of_ble_eq_true rfl, Nat.le_of_ble_eq_true rfl⟩ (Nat.le_of_ble_eq_true rfl) ⟨Nat.le_of_ble_eq_true rfl, Nat.le_of_ble_eq_true rfl⟩ ⟨Nat.le_of_ble_eq_true rfl, Nat.le_of_ble_eq_true rfl⟩ dX10_shared_16 (fun u9 H locs hv hw => ?_) (fun E9 hE => by have hE : (Sum.inr (some (.int v4)) : String ⊕ Option Value) = Sum.inl E9 := hE; cases hE)
  have hv : (Sum.inr (some (.int v4)) : String ⊕ Option Value) = Sum.inr u9 := hv
  cases hv
  refine lv_istore (lv' := [(5, .int v4), (4, .int v2), (0, .ref x0), (1, .int x1), (2, .int x2), (3, .int x3)]) fx.1 fx.2.1 dX10_shared_19 hl (by decide) rfl (fun ls hl => ?_)
  refine lv_iload fx.1 fx.2.1 dX10_shared_21 (lv_at hl 1 rfl) ?_
  refine lv_iload fx.1 fx.2.1 dX10_shared_23 (lv_at hl 0 rfl) ?_
  refine lv_iload_n fx.1 fx.2.1 dX10_shared_25 rfl (lv_at hl 5 rfl) ?_
  obtain ⟨v6, hf, hok⟩ := gOk_bind hok
  refine g_callS0 fx hw (c_X10_firstShare l X τ v2 v4 x3 G5  hf) ls_RX10_370 ⟨rfl, rfl⟩ rfl hl.1 rfl ⟨Nat.le_of_ble_eq_true rfl, Nat.le_of_ble_eq_true rfl⟩ (Nat.le_of_ble_eq_true rfl) ⟨Nat.le_of_ble_eq_true rfl, Nat.le_of_ble_eq_true rfl⟩ dX10_shared_26 (fun H locs hw => ?_)
  refine lv_istore (lv' := [(6, .int v6), (5, .int v4), (4, .int v2), (0, .ref x0), (1, .int x1), (2, .int x2), (3, .int x3)]) fx.1 fx.2.1 dX10_shared_29 hl (by decide) rfl (fun ls hl => ?_)
  refine lv_iload fx.1 fx.2.1 dX10_shared_31 (lv_at hl 0 rfl) ?_
  refine lv_iload fx.1 fx.2.1 dX10_shared_33 (lv_at hl 2 rfl) ?_
  refine g_icmp_gt (tgt := 51) fx dX10_shared_35 (by decide) hok (fun hok => ?_) (fun hok => ?_)
  · refine lv_iconst (v := 0) fx.1 fx.2.1 dX10_shared_51 (by decide) ?_
    cases gOk_some hok
    exact g_zretX fx hw hr (by decide) ⟨Nat.le_of_ble_eq_true rfl, Nat.le_of_ble_eq_true rfl⟩ dX10_shared_52
  · refine lv_iload_n fx.1 fx.2.1 dX10_shared_38 rfl (lv_at hl 6 rfl) ?_
    refine lv_iload fx.1 fx.2.1 dX10_shared_39 (lv_at hl 0 rfl) ?_
    refine lv_isub fx.1 fx.2.1 dX10_shared_41 ?_
    refine lv_iload fx.1 fx.2.1 dX10_shared_42 (lv_at hl 1 rfl) ?_
    refine g_icmp_gt (tgt := 51) fx dX10_shared_44 (by decide) hok (fun hok => ?_) (fun hok => ?_)
    · refine lv_iconst (v := 0) fx.1 fx.2.1 dX10_shared_51 (by decide) ?_
      cases gOk_some hok
      exact g_zretX fx hw hr (by decide) ⟨Nat.le_of_ble_eq_true rfl, Nat.le_of_ble_eq_true rfl⟩ dX10_shared_52
    · refine lv_iconst (v := 1) fx.1 fx.2.1 dX10_shared_47 (by decide) ?_
      refine lv_goto (tgt := 52) fx.1 fx.2.1 dX10_shared_48 (by decide) ?_
      cases gOk_some hok
      exact g_zretX fx hw hr (by decide) ⟨Nat.le_of_ble_eq_true rfl, Nat.le_of_ble_eq_true rfl⟩ dX10_shared_52
theorem dX10_seasonsTillChange_0 : decode cX10_seasonsTillChange 0 = .ok (.iconst 0, 1) := by decide +kernel
theorem dX10_seasonsTillChange_1 : decode cX10_seasonsTillChange 1 = .ok (.istore_n 2, 1) := by decide +kernel
theorem dX10_seasonsTillChange_2 : decode cX10_seasonsTillChange 2 = .ok (.iload_n 2, 1) := by decide +kernel
theorem dX10_seasonsTillChange_3 : decode cX10_seasonsTillChange 3 = .ok (.bipush 40, 2) := by decide +kernel
theorem dX10_seasonsTillChange_5 : decode cX10_seasonsTillChange 5 = .ok (.if_icmp .gt 59, 3) := by decide +kernel
theorem dX10_seasonsTillChange_8 : decode cX10_seasonsTillChange 8 = .ok (.aload_n 1, 1) := by decide +kernel
theorem dX10_seasonsTillChange_9 : decode cX10_seasonsTillChange 9 = .ok (.getfield 185, 3) := by decide +kernel
theorem dX10_seasonsTillChange_12 : decode cX10_seasonsTillChange 12 = .ok (.ifCond .ne 52, 3) := by decide +kernel
theorem dX10_seasonsTillChange_15 : decode cX10_seasonsTillChange 15 = .ok (.aload_n 0, 1) := by decide +kernel
theorem dX10_seasonsTillChange_16 : decode cX10_seasonsTillChange 16 = .ok (.getfield 73, 3) := by decide +kernel
theorem dX10_seasonsTillChange_19 : decode cX10_seasonsTillChange 19 = .ok (.aload_n 1, 1) := by decide +kernel
theorem dX10_seasonsTillChange_20 : decode cX10_seasonsTillChange 20 = .ok (.aload_n 0, 1) := by decide +kernel
theorem dX10_seasonsTillChange_21 : decode cX10_seasonsTillChange 21 = .ok (.getfield 76, 3) := by decide +kernel
theorem dX10_seasonsTillChange_24 : decode cX10_seasonsTillChange 24 = .ok (.invokevirtual 191, 3) := by decide +kernel
theorem dX10_seasonsTillChange_27 : decode cX10_seasonsTillChange 27 = .ok (.iconst 2, 1) := by decide +kernel
theorem dX10_seasonsTillChange_28 : decode cX10_seasonsTillChange 28 = .ok (.aload_n 1, 1) := by decide +kernel
theorem dX10_seasonsTillChange_29 : decode cX10_seasonsTillChange 29 = .ok (.getfield 188, 3) := by decide +kernel
theorem dX10_seasonsTillChange_32 : decode cX10_seasonsTillChange 32 = .ok (.imul, 1) := by decide +kernel
theorem dX10_seasonsTillChange_33 : decode cX10_seasonsTillChange 33 = .ok (.if_icmp .ge 5, 3) := by decide +kernel
theorem dX10_seasonsTillChange_36 : decode cX10_seasonsTillChange 36 = .ok (.iload_n 2, 1) := by decide +kernel
theorem dX10_seasonsTillChange_37 : decode cX10_seasonsTillChange 37 = .ok (.ireturn, 1) := by decide +kernel
theorem dX10_seasonsTillChange_38 : decode cX10_seasonsTillChange 38 = .ok (.aload_n 0, 1) := by decide +kernel
theorem dX10_seasonsTillChange_39 : decode cX10_seasonsTillChange 39 = .ok (.getfield 73, 3) := by decide +kernel
theorem dX10_seasonsTillChange_42 : decode cX10_seasonsTillChange 42 = .ok (.aload_n 1, 1) := by decide +kernel
theorem dX10_seasonsTillChange_43 : decode cX10_seasonsTillChange 43 = .ok (.iconst 0, 1) := by decide +kernel
theorem dX10_seasonsTillChange_44 : decode cX10_seasonsTillChange 44 = .ok (.aload_n 0, 1) := by decide +kernel
theorem dX10_seasonsTillChange_45 : decode cX10_seasonsTillChange 45 = .ok (.getfield 76, 3) := by decide +kernel
theorem dX10_seasonsTillChange_48 : decode cX10_seasonsTillChange 48 = .ok (.invokevirtual 376, 3) := by decide +kernel
theorem dX10_seasonsTillChange_51 : decode cX10_seasonsTillChange 51 = .ok (.aload_n 0, 1) := by decide +kernel
theorem dX10_seasonsTillChange_52 : decode cX10_seasonsTillChange 52 = .ok (.getfield 73, 3) := by decide +kernel
theorem dX10_seasonsTillChange_55 : decode cX10_seasonsTillChange 55 = .ok (.invokevirtual 380, 3) := by decide +kernel
theorem dX10_seasonsTillChange_58 : decode cX10_seasonsTillChange 58 = .ok (.iinc 2 1, 3) := by decide +kernel
theorem dX10_seasonsTillChange_61 : decode cX10_seasonsTillChange 61 = .ok (.goto (-59), 3) := by decide +kernel
theorem dX10_seasonsTillChange_64 : decode cX10_seasonsTillChange 64 = .ok (.iconst (-1), 1) := by decide +kernel
theorem dX10_seasonsTillChange_65 : decode cX10_seasonsTillChange 65 = .ok (.ireturn, 1) := by decide +kernel
theorem lv_RX10_376 : gLv RX10 376 RX6 yX6_fray cX6_fray 5 none 3 := gLv_of (wA_t (wt6 (List.mem_of_getElem? (i := 123) (by decide +kernel))) (by decide +kernel)) (wA_t (wt6 (List.mem_of_getElem? (i := 3) (by decide +kernel))) (by decide +kernel)) (wA_t (wt6 (List.mem_of_getElem? (i := 4) (by decide +kernel))) (by decide +kernel)) (wA_t (wt1 (List.mem_of_getElem? (i := 6) (by decide +kernel))) (by decide +kernel)) (wA_t (wt6 (List.mem_of_getElem? (i := 5) (by decide +kernel))) (by decide +kernel)) ⟨rfl, by decide +kernel, by decide +kernel, by decide +kernel⟩
theorem lv_RX10_380 : gLv RX10 380 RX6 yX6_endSeason cX6_endSeason 1 none 0 := gLv_of (wA_t (wt6 (List.mem_of_getElem? (i := 124) (by decide +kernel))) (by decide +kernel)) (wA_t (wt6 (List.mem_of_getElem? (i := 18) (by decide +kernel))) (by decide +kernel)) (wA_t (wt6 (List.mem_of_getElem? (i := 19) (by decide +kernel))) (by decide +kernel)) (wA_t (wt1 (List.mem_of_getElem? (i := 6) (by decide +kernel))) (by decide +kernel)) (wA_t (wt6 (List.mem_of_getElem? (i := 20) (by decide +kernel))) (by decide +kernel)) ⟨rfl, by decide +kernel, by decide +kernel, by decide +kernel⟩
def rm_X10_seasonsTillChange : Room := { frames := 5, cells := 0, slots := 0, locals := 121 }
def b_X10_seasonsTillChange_2 (τ : gτ) (n : Nat) (x0 : Nat) (x1 : Nat) (x2 : Int32) (G : gG) : Option ((Int32 × gG) ⊕ ((gG) ⊕ (Int32 × gG))) :=
  if (40 : Int32) < x2 then (some (.inr (.inl G)))
  else (if (gi G 5 9 x1) = 0 then ((gr G 10 11 x0).bind fun a1 =>
  (gr G 10 12 x0).bind fun a2 =>
  gBind2 (f_X6_bearing τ n a1 x1 a2 G) fun v3 G4 =>
  if ((2 : Int32) * (gi G4 5 7 x1)) ≤ v3 then ((gr G4 10 11 x0).bind fun a5 =>
  (gr G4 10 12 x0).bind fun a6 =>
  (f_X6_fray τ n a5 x1 (0 : Int32) a6 G4).bind fun G7 =>
  (gr G7 10 11 x0).bind fun a8 =>
  (f_X6_endSeason a8 G7).bind fun G9 =>
  gLet (x2 + 1) fun v10 =>
  some (.inl (v10, G9)))
  else (some (.inr (.inr (x2, G4)))))
  else (some (.inr (.inl G))))
def l_X10_seasonsTillChange_2 (τ : gτ) (n : Nat) (x0 : Nat) (x1 : Nat) (x2 : Int32) (G : gG) : Option ((gG) ⊕ (Int32 × gG)) :=
  gIter (fun (q : Int32 × gG) => b_X10_seasonsTillChange_2 τ n x0 x1 q.1 q.2) n (x2, G)
def f_X10_seasonsTillChange (τ : gτ) (n : Nat) (x0 : Nat) (x1 : Nat) (G : gG) : Option (Int32 × gG) :=
  (l_X10_seasonsTillChange_2 τ n x0 x1 (0 : Int32) G).bind fun q => match q with
  | .inl q => gLet q fun G11 => (some ((-1), G11))
  | .inr q => (gLet q.1 fun z12 => gLet q.2 fun G13 => some (z12, G13))
set_option maxHeartbeats 4000000 in
set_option maxRecDepth 100000 in
theorem w_b_X10_seasonsTillChange_2 {X : gX} {τ : gτ} {p : Program} {l : Launch} {e : Env} {s : State} {m : MethodId} {args : Array Value} {below : List Frame} {meth : Method} {c : Code} (fx : gFx X p s m args meth c cX10_seasonsTillChange 3 RX10) (n : Nat) (x0 : Nat) (x1 : Nat) (x2 : Int32) (h0 : gK τ x0 10) (h1 : gK τ x1 5) {Q : State → Prop} {K : ((Int32 × gG) ⊕ ((gG) ⊕ (Int32 × gG))) → Prop} {G : gG} {H : Heap} {locs : List Loc} {ls : Array Slot} (hw : gHw X τ G H locs) (hl : lv_has ls 3 [(0, .ref x0), (1, .ref x1), (2, .int x2)]) (hok : gOk (b_X10_seasonsTillChange_2 τ n x0 x1 x2 G) K) (hc : ∀ (y2 : Int32) (G : gG) (H : Heap) (locs : List Loc) (ls : Array Slot), gHw X τ G H locs → lv_has ls 3 [(0, .ref x0), (1, .ref x1), (2, .int y2)] → K (.inl (y2, G)) → W p l e rm_X10_seasonsTillChange s m args below meth c H locs 0 0 Q (F0 m 2 ls [])) (hx0 : ∀ (G : gG) (H : Heap) (locs : List Loc) (ls : Array Slot), gHw X τ G H locs → lv_has ls 3 [] → K (.inr (.inl G)) → W p l e rm_X10_seasonsTillChange s m args below meth c H locs 0 0 Q (F0 m 64 ls [])) (hx1 : ∀ (y2 : Int32) (G : gG) (H : Heap) (locs : List Loc) (ls : Array Slot), gHw X τ G H locs → lv_has ls 3 [(2, .int y2)] → K (.inr (.inr (y2, G))) → W p l e rm_X10_seasonsTillChange s m args below meth c H locs 0 0 Q (F0 m 36 ls [])) : W p l e rm_X10_seasonsTillChange s m args below meth c H locs 0 0 Q (F0 m 2 ls []) := by
  unfold b_X10_seasonsTillChange_2 at hok
  refine lv_iload_n fx.1 fx.2.1 dX10_seasonsTillChange_2 rfl (lv_at hl 2 rfl) ?_
  refine lv_bipush (v := 40) fx.1 fx.2.1 dX10_seasonsTillChange_3 (by decide) ?_
  refine g_icmp_gt (tgt := 64) fx dX10_seasonsTillChange_5 (by decide) hok (fun hok => ?_) (fun hok => ?_)
  · exact hx0  G _ _ _  hw (lv_sub hl [] rfl) (gOk_some hok)
  · refine lv_aload_n fx.1 fx.2.1 dX10_seasonsTillChange_8 rfl (lv_at hl 1 rfl) ?_
    refine g_geti fx hw h1 lf_RX10_185 rfl dX10_seasonsTillChange_9 ?_
    refine g_if_ne (tgt := 64) fx dX10_seasonsTillChange_12 (by decide) hok (fun hok => ?_) (fun hok => ?_)
    · refine lv_aload_n fx.1 fx.2.1 dX10_seasonsTillChange_15 rfl (lv_at hl 0 rfl) ?_
      refine g_getr fx hw h0 lf_RX10_73 rfl dX10_seasonsTillChange_16 hok (fun a1 h_a1 hok => ?_)
      refine lv_aload_n fx.1 fx.2.1 dX10_seasonsTillChange_19 rfl (lv_at hl 1 rfl) ?_
      refine lv_aload_n fx.1 fx.2.1 dX10_seasonsTillChange_20 rfl (lv_at hl 0 rfl) ?_
      refine g_getr fx hw h0 lf_RX10_76 rfl dX10_seasonsTillChange_21 hok (fun a2 h_a2 hok => ?_)
      obtain ⟨v3, G4, hf, hok⟩ := gOk_bind2 hok
      refine g_callV0 (κ := 6) fx hw (c_X6_bearing l X τ n a1 x1 a2 G h_a1 h1 h_a2 hf) lv_RX10_191 ⟨rfl, rfl⟩ rfl rfl h_a1 rfl hl.1 rfl ⟨Nat.le_of_ble_eq_true rfl, Nat.le_of_ble_eq_true rfl⟩ (Nat.le_of_ble_eq_true rfl) ⟨Nat.le_of_ble_eq_true rfl, Nat.le_of_ble_eq_true rfl⟩ dX10_seasonsTillChange_24 (fun H locs hw => ?_)
      refine lv_iconst (v := 2) fx.1 fx.2.1 dX10_seasonsTillChange_27 (by decide) ?_
      refine lv_aload_n fx.1 fx.2.1 dX10_seasonsTillChange_28 rfl (lv_at hl 1 rfl) ?_
      refine g_geti fx hw h1 lf_RX10_188 rfl dX10_seasonsTillChange_29 ?_
      refine lv_imul fx.1 fx.2.1 dX10_seasonsTillChange_32 ?_
      refine g_icmp_ge (tgt := 38) fx dX10_seasonsTillChange_33 (by decide) hok (fun hok => ?_) (fun hok => ?_)
      · refine lv_aload_n fx.1 fx.2.1 dX10_seasonsTillChange_38 rfl (lv_at hl 0 rfl) ?_
        refine g_getr fx hw h0 lf_RX10_73 rfl dX10_seasonsTillChange_39 hok (fun a5 h_a5 hok => ?_)
        refine lv_aload_n fx.1 fx.2.1 dX10_seasonsTillChange_42 rfl (lv_at hl 1 rfl) ?_
        refine lv_iconst (v := 0) fx.1 fx.2.1 dX10_seasonsTillChange_43 (by decide) ?_
        refine lv_aload_n fx.1 fx.2.1 dX10_seasonsTillChange_44 rfl (lv_at hl 0 rfl) ?_
        refine g_getr fx hw h0 lf_RX10_76 rfl dX10_seasonsTillChange_45 hok (fun a6 h_a6 hok => ?_)
        obtain ⟨G7, hf, hok⟩ := gOk_bind hok
        refine g_callV0 (κ := 6) fx hw (c_X6_fray l X τ n a5 x1 (0 : Int32) a6 G4 h_a5 h1 h_a6 hf) lv_RX10_376 ⟨rfl, rfl⟩ rfl rfl h_a5 rfl hl.1 rfl ⟨Nat.le_of_ble_eq_true rfl, Nat.le_of_ble_eq_true rfl⟩ (Nat.le_of_ble_eq_true rfl) ⟨Nat.le_of_ble_eq_true rfl, Nat.le_of_ble_eq_true rfl⟩ dX10_seasonsTillChange_48 (fun H locs hw => ?_)
        refine lv_aload_n fx.1 fx.2.1 dX10_seasonsTillChange_51 rfl (lv_at hl 0 rfl) ?_
        refine g_getr fx hw h0 lf_RX10_73 rfl dX10_seasonsTillChange_52 hok (fun a8 h_a8 hok => ?_)
        obtain ⟨G9, hf, hok⟩ := gOk_bind hok
        refine g_callV0 (κ := 6) fx hw (c_X6_endSeason l X τ a8 G7 h_a8 hf) lv_RX10_380 ⟨rfl, rfl⟩ rfl rfl h_a8 rfl hl.1 rfl ⟨Nat.le_of_ble_eq_true rfl, Nat.le_of_ble_eq_true rfl⟩ (Nat.le_of_ble_eq_true rfl) ⟨Nat.le_of_ble_eq_true rfl, Nat.le_of_ble_eq_true rfl⟩ dX10_seasonsTillChange_55 (fun H locs hw => ?_)
        obtain ⟨v10, e_v10, hok⟩ := gOk_let hok
        refine lv_iinc (v := v10) (lv' := [(2, .int v10), (0, .ref x0), (1, .ref x1)]) fx.1 fx.2.1 dX10_seasonsTillChange_58 hl (k := 2) rfl (by rw [e_v10]; rfl) (by decide) rfl (fun ls hl => ?_)
        refine lv_goto (tgt := 2) fx.1 fx.2.1 dX10_seasonsTillChange_61 (by decide) ?_
        exact hc v10 G9 _ _ _  hw (lv_sub hl [1, 2, 0] rfl) (gOk_some hok)
      · exact hx1 x2 G4 _ _ _  hw (lv_sub hl [2] rfl) (gOk_some hok)
    · exact hx0  G _ _ _  hw (lv_sub hl [] rfl) (gOk_some hok)
theorem w_l_X10_seasonsTillChange_2 {X : gX} {τ : gτ} {p : Program} {l : Launch} {e : Env} {s : State} {m : MethodId} {args : Array Value} {below : List Frame} {meth : Method} {c : Code} (fx : gFx X p s m args meth c cX10_seasonsTillChange 3 RX10) (n : Nat) (x0 : Nat) (x1 : Nat) (h0 : gK τ x0 10) (h1 : gK τ x1 5) {Q : State → Prop} {K : ((gG) ⊕ (Int32 × gG)) → Prop} (hx0 : ∀ (G : gG) (H : Heap) (locs : List Loc) (ls : Array Slot), gHw X τ G H locs → lv_has ls 3 [] → K (.inl G) → W p l e rm_X10_seasonsTillChange s m args below meth c H locs 0 0 Q (F0 m 64 ls [])) (hx1 : ∀ (y2 : Int32) (G : gG) (H : Heap) (locs : List Loc) (ls : Array Slot), gHw X τ G H locs → lv_has ls 3 [(2, .int y2)] → K (.inr (y2, G)) → W p l e rm_X10_seasonsTillChange s m args below meth c H locs 0 0 Q (F0 m 36 ls [])) : ∀ (k : Nat) (x2 : Int32) (G : gG) (H : Heap) (locs : List Loc) (ls : Array Slot), gHw X τ G H locs → lv_has ls 3 [(0, .ref x0), (1, .ref x1), (2, .int x2)] → gOk (gIter (fun (q : Int32 × gG) => b_X10_seasonsTillChange_2 τ n x0 x1 q.1 q.2) k (x2, G)) K → W p l e rm_X10_seasonsTillChange s m args below meth c H locs 0 0 Q (F0 m 2 ls []) := by
  intro k
  induction k with
  | zero =>
    intro x2 G H locs ls hw hl hok
    exact gOk_iter0 hok
  | succ k hc =>
    intro x2 G H locs ls hw hl hok
    exact w_b_X10_seasonsTillChange_2 fx n x0 x1 x2 h0 h1 hw hl (gOk_iter hok) hc hx0 hx1
set_option maxHeartbeats 4000000 in
set_option maxRecDepth 100000 in
theorem c_X10_seasonsTillChange (l : Launch) (X : gX) (τ : gτ) (n : Nat) (x0 : Nat) (x1 : Nat) (G : gG) (h0 : gK τ x0 10) (h1 : gK τ x1 5) {r : Int32} {G' : gG} (h : f_X10_seasonsTillChange τ n x0 x1 G = some (r, G')) : gM l X τ yX10_seasonsTillChange cX10_seasonsTillChange 3 (some .int) rm_X10_seasonsTillChange [.ref x0, .ref x1] G (some (.int r)) G' := by
  refine g_body (by decide +kernel) (Nat.le_of_ble_eq_true rfl) ?_
  intro p e s m args below meth c ls fx hr hw hl
  have fx : gFx X p s m args meth c cX10_seasonsTillChange 3 RX10 := fx
  have hl : lv_has ls 3 [(0, .ref x0), (1, .ref x1)] := hl
  have hok : gOk (f_X10_seasonsTillChange τ n x0 x1 G) (fun q => q = (r, G')) := ⟨_, h, rfl⟩
  unfold f_X10_seasonsTillChange at hok
  show W p l e rm_X10_seasonsTillChange s m args below meth c s.heap [] 0 0 (MQ below (gQ X τ (some (.int r)) G') args s 0 0 (gFree X)) _
  refine lv_iconst (v := 0) fx.1 fx.2.1 dX10_seasonsTillChange_0 (by decide) ?_
  refine lv_istore_n (lv' := [(2, .int (0 : Int32)), (0, .ref x0), (1, .ref x1)]) fx.1 fx.2.1 dX10_seasonsTillChange_1 rfl hl (by decide) rfl (fun ls hl => ?_)
  refine w_l_X10_seasonsTillChange_2 fx n x0 x1 h0 h1 ?_ ?_ n (0 : Int32) G _ _ _  hw (lv_sub hl [1, 2, 0] rfl) (gOk_bindK hok)
  · intro G11 H locs ls hw hl hok
    have hok : gOk (ρ := Int32 × gG) (some ((-1), G11)) _ := hok
    refine lv_iconst (v := (-1)) fx.1 fx.2.1 dX10_seasonsTillChange_64 (by decide) ?_
    cases gOk_some hok
    exact g_iret fx hw hr dX10_seasonsTillChange_65
  · intro z12 G13 H locs ls hw hl hok
    have hok : gOk (ρ := Int32 × gG) (some (z12, G13)) _ := hok
    refine lv_iload_n fx.1 fx.2.1 dX10_seasonsTillChange_36 rfl (lv_at hl 0 rfl) ?_
    cases gOk_some hok
    exact g_iret fx hw hr dX10_seasonsTillChange_37
theorem dX10_holds_0 : decode cX10_holds 0 = .ok (.aload_n 0, 1) := by decide +kernel
theorem dX10_holds_1 : decode cX10_holds 1 = .ok (.iload_n 1, 1) := by decide +kernel
theorem dX10_holds_2 : decode cX10_holds 2 = .ok (.invokevirtual 156, 3) := by decide +kernel
theorem dX10_holds_5 : decode cX10_holds 5 = .ok (.pop, 1) := by decide +kernel
theorem dX10_holds_6 : decode cX10_holds 6 = .ok (.aload_n 0, 1) := by decide +kernel
theorem dX10_holds_7 : decode cX10_holds 7 = .ok (.getfield 73, 3) := by decide +kernel
theorem dX10_holds_10 : decode cX10_holds 10 = .ok (.aload_n 0, 1) := by decide +kernel
theorem dX10_holds_11 : decode cX10_holds 11 = .ok (.getfield 70, 3) := by decide +kernel
theorem dX10_holds_14 : decode cX10_holds 14 = .ok (.invokevirtual 90, 3) := by decide +kernel
theorem dX10_holds_17 : decode cX10_holds 17 = .ok (.aload_n 0, 1) := by decide +kernel
theorem dX10_holds_18 : decode cX10_holds 18 = .ok (.getfield 73, 3) := by decide +kernel
theorem dX10_holds_21 : decode cX10_holds 21 = .ok (.getfield 325, 3) := by decide +kernel
theorem dX10_holds_24 : decode cX10_holds 24 = .ok (.iload_n 1, 1) := by decide +kernel
theorem dX10_holds_25 : decode cX10_holds 25 = .ok (.aaload, 1) := by decide +kernel
theorem dX10_holds_26 : decode cX10_holds 26 = .ok (.astore_n 3, 1) := by decide +kernel
theorem dX10_holds_27 : decode cX10_holds 27 = .ok (.iload_n 2, 1) := by decide +kernel
theorem dX10_holds_28 : decode cX10_holds 28 = .ok (.ifCond .eq 9, 3) := by decide +kernel
theorem dX10_holds_31 : decode cX10_holds 31 = .ok (.aload_n 0, 1) := by decide +kernel
theorem dX10_holds_32 : decode cX10_holds 32 = .ok (.aload_n 3, 1) := by decide +kernel
theorem dX10_holds_33 : decode cX10_holds 33 = .ok (.invokevirtual 373, 3) := by decide +kernel
theorem dX10_holds_36 : decode cX10_holds 36 = .ok (.ireturn, 1) := by decide +kernel
theorem dX10_holds_37 : decode cX10_holds 37 = .ok (.aload_n 3, 1) := by decide +kernel
theorem dX10_holds_38 : decode cX10_holds 38 = .ok (.getfield 185, 3) := by decide +kernel
theorem dX10_holds_41 : decode cX10_holds 41 = .ok (.ifCond .eq 5, 3) := by decide +kernel
theorem dX10_holds_44 : decode cX10_holds 44 = .ok (.iconst 0, 1) := by decide +kernel
theorem dX10_holds_45 : decode cX10_holds 45 = .ok (.ireturn, 1) := by decide +kernel
theorem dX10_holds_46 : decode cX10_holds 46 = .ok (.iconst 0, 1) := by decide +kernel
theorem dX10_holds_47 : decode cX10_holds 47 = .ok (.istore 4, 2) := by decide +kernel
theorem dX10_holds_49 : decode cX10_holds 49 = .ok (.iload 4, 2) := by decide +kernel
theorem dX10_holds_51 : decode cX10_holds 51 = .ok (.bipush 40, 2) := by decide +kernel
theorem dX10_holds_53 : decode cX10_holds 53 = .ok (.if_icmp .ge 39, 3) := by decide +kernel
theorem dX10_holds_56 : decode cX10_holds 56 = .ok (.aload_n 0, 1) := by decide +kernel
theorem dX10_holds_57 : decode cX10_holds 57 = .ok (.getfield 73, 3) := by decide +kernel
theorem dX10_holds_60 : decode cX10_holds 60 = .ok (.aload_n 3, 1) := by decide +kernel
theorem dX10_holds_61 : decode cX10_holds 61 = .ok (.iconst 0, 1) := by decide +kernel
theorem dX10_holds_62 : decode cX10_holds 62 = .ok (.aload_n 0, 1) := by decide +kernel
theorem dX10_holds_63 : decode cX10_holds 63 = .ok (.getfield 76, 3) := by decide +kernel
theorem dX10_holds_66 : decode cX10_holds 66 = .ok (.invokevirtual 376, 3) := by decide +kernel
theorem dX10_holds_69 : decode cX10_holds 69 = .ok (.aload_n 3, 1) := by decide +kernel
theorem dX10_holds_70 : decode cX10_holds 70 = .ok (.getfield 185, 3) := by decide +kernel
theorem dX10_holds_73 : decode cX10_holds 73 = .ok (.ifCond .eq 6, 3) := by decide +kernel
theorem dX10_holds_76 : decode cX10_holds 76 = .ok (.iload 4, 2) := by decide +kernel
theorem dX10_holds_78 : decode cX10_holds 78 = .ok (.ireturn, 1) := by decide +kernel
theorem dX10_holds_79 : decode cX10_holds 79 = .ok (.aload_n 0, 1) := by decide +kernel
theorem dX10_holds_80 : decode cX10_holds 80 = .ok (.getfield 73, 3) := by decide +kernel
theorem dX10_holds_83 : decode cX10_holds 83 = .ok (.invokevirtual 380, 3) := by decide +kernel
theorem dX10_holds_86 : decode cX10_holds 86 = .ok (.iinc 4 1, 3) := by decide +kernel
theorem dX10_holds_89 : decode cX10_holds 89 = .ok (.goto (-40), 3) := by decide +kernel
theorem dX10_holds_92 : decode cX10_holds 92 = .ok (.bipush 40, 2) := by decide +kernel
theorem dX10_holds_94 : decode cX10_holds 94 = .ok (.ireturn, 1) := by decide +kernel
theorem lv_RX10_373 : gLv RX10 373 RX10 yX10_seasonsTillChange cX10_seasonsTillChange 3 (some .int) 1 := gLv_of (wA_t (wt6 (List.mem_of_getElem? (i := 119) (by decide +kernel))) (by decide +kernel)) (wA_t (wt6 (List.mem_of_getElem? (i := 121) (by decide +kernel))) (by decide +kernel)) (wA_of (List.mem_append_left _ (List.mem_map.mpr ⟨(⟨"YearRope", "seasonsTillChange", "(LYearRope$Rope;)I"⟩, 15), wp3 (List.mem_of_getElem? (i := 7) (by decide +kernel)), rfl⟩)) (by decide +kernel)) (wA_t (wt1 (List.mem_of_getElem? (i := 1) (by decide +kernel))) (by decide +kernel)) (wA_t (wt6 (List.mem_of_getElem? (i := 122) (by decide +kernel))) (by decide +kernel)) ⟨rfl, by decide +kernel, by decide +kernel, by decide +kernel⟩
def rm_X10_holds : Room := { frames := 7, cells := 1, slots := 6, locals := 143 }
def b_X10_holds_49 (τ : gτ) (n : Nat) (x0 : Nat) (x3 : Nat) (x4 : Int32) (G : gG) : Option ((Int32 × gG) ⊕ ((gG) ⊕ (Int32 × gG))) :=
  if (40 : Int32) ≤ x4 then (some (.inr (.inl G)))
  else ((gr G 10 11 x0).bind fun a9 =>
  (gr G 10 12 x0).bind fun a10 =>
  (f_X6_fray τ n a9 x3 (0 : Int32) a10 G).bind fun G11 =>
  if (gi G11 5 9 x3) = 0 then ((gr G11 10 11 x0).bind fun a12 =>
  (f_X6_endSeason a12 G11).bind fun G13 =>
  gLet (x4 + 1) fun v14 =>
  some (.inl (v14, G13)))
  else (some (.inr (.inr (x4, G11)))))
def l_X10_holds_49 (τ : gτ) (n : Nat) (x0 : Nat) (x3 : Nat) (x4 : Int32) (G : gG) : Option ((gG) ⊕ (Int32 × gG)) :=
  gIter (fun (q : Int32 × gG) => b_X10_holds_49 τ n x0 x3 q.1 q.2) n (x4, G)
def f_X10_holds (τ : gτ) (n : Nat) (x0 : Nat) (x1 : Int32) (x2 : Int32) (G : gG) : Option ((String ⊕ Int32) × gG) :=
  gBindX (f_X10_ropeOf τ x0 x1 G) fun a1 G2 =>
  gchk (gkd τ a1 5) <|
  (gr G2 10 11 x0).bind fun a3 =>
  (gr G2 10 10 x0).bind fun a4 =>
  (f_X6_become τ n a3 a4 G2).bind fun G5 =>
  (gr G5 10 11 x0).bind fun a6 =>
  (gr G5 6 1 a6).bind fun a7 =>
  gchk (gIn x1 (gn τ a7)) <| (gq G5 a7 (Int32.toNatClampNeg x1)).bind fun a8 =>
  if x2 = 0 then (if (gi G5 5 9 a8) = 0 then ((l_X10_holds_49 τ n x0 a8 (0 : Int32) G5).bind fun q => match q with
  | .inl q => gLet q fun G15 => (some (.inr (40 : Int32), G15))
  | .inr q => (gLet q.1 fun z16 => gLet q.2 fun G17 => some (.inr z16, G17)))
  else (some (.inr (0 : Int32), G5)))
  else (gBind2 (f_X10_seasonsTillChange τ n x0 a8 G5) fun v18 G19 =>
  some (.inr v18, G19))
set_option maxHeartbeats 4000000 in
set_option maxRecDepth 100000 in
theorem w_b_X10_holds_49 {X : gX} {τ : gτ} {p : Program} {l : Launch} {e : Env} {s : State} {m : MethodId} {args : Array Value} {below : List Frame} {meth : Method} {c : Code} (fx : gFx X p s m args meth c cX10_holds 5 RX10) (hS : gS0 l X) (hxt : ∀ x ∈ c.exceptionTable.toList, False) (n : Nat) (x0 : Nat) (x3 : Nat) (x4 : Int32) (h0 : gK τ x0 10) (h3 : gK τ x3 5) {Q : State → Prop} {K : ((Int32 × gG) ⊕ ((gG) ⊕ (Int32 × gG))) → Prop} {G : gG} {H : Heap} {locs : List Loc} {ls : Array Slot} (hw : gHw X τ G H locs) (hl : lv_has ls 5 [(0, .ref x0), (3, .ref x3), (4, .int x4)]) (hok : gOk (b_X10_holds_49 τ n x0 x3 x4 G) K) (hc : ∀ (y4 : Int32) (G : gG) (H : Heap) (locs : List Loc) (ls : Array Slot), gHw X τ G H locs → lv_has ls 5 [(0, .ref x0), (3, .ref x3), (4, .int y4)] → K (.inl (y4, G)) → W p l e rm_X10_holds s m args below meth c H locs 1 6 Q (F0 m 49 ls [])) (hx0 : ∀ (G : gG) (H : Heap) (locs : List Loc) (ls : Array Slot), gHw X τ G H locs → lv_has ls 5 [] → K (.inr (.inl G)) → W p l e rm_X10_holds s m args below meth c H locs 1 6 Q (F0 m 92 ls [])) (hx1 : ∀ (y4 : Int32) (G : gG) (H : Heap) (locs : List Loc) (ls : Array Slot), gHw X τ G H locs → lv_has ls 5 [(4, .int y4)] → K (.inr (.inr (y4, G))) → W p l e rm_X10_holds s m args below meth c H locs 1 6 Q (F0 m 76 ls [])) : W p l e rm_X10_holds s m args below meth c H locs 1 6 Q (F0 m 49 ls []) := by
  unfold b_X10_holds_49 at hok
  refine lv_iload fx.1 fx.2.1 dX10_holds_49 (lv_at hl 2 rfl) ?_
  refine lv_bipush (v := 40) fx.1 fx.2.1 dX10_holds_51 (by decide) ?_
  refine g_icmp_ge (tgt := 92) fx dX10_holds_53 (by decide) hok (fun hok => ?_) (fun hok => ?_)
  · exact hx0  G _ _ _  hw (lv_sub hl [] rfl) (gOk_some hok)
  · refine lv_aload_n fx.1 fx.2.1 dX10_holds_56 rfl (lv_at hl 0 rfl) ?_
    refine g_getr fx hw h0 lf_RX10_73 rfl dX10_holds_57 hok (fun a9 h_a9 hok => ?_)
    refine lv_aload_n fx.1 fx.2.1 dX10_holds_60 rfl (lv_at hl 1 rfl) ?_
    refine lv_iconst (v := 0) fx.1 fx.2.1 dX10_holds_61 (by decide) ?_
    refine lv_aload_n fx.1 fx.2.1 dX10_holds_62 rfl (lv_at hl 0 rfl) ?_
    refine g_getr fx hw h0 lf_RX10_76 rfl dX10_holds_63 hok (fun a10 h_a10 hok => ?_)
    obtain ⟨G11, hf, hok⟩ := gOk_bind hok
    refine g_callV0 (κ := 6) fx hw (c_X6_fray l X τ n a9 x3 (0 : Int32) a10 G h_a9 h3 h_a10 hf) lv_RX10_376 ⟨rfl, rfl⟩ rfl rfl h_a9 rfl hl.1 rfl ⟨Nat.le_of_ble_eq_true rfl, Nat.le_of_ble_eq_true rfl⟩ (Nat.le_of_ble_eq_true rfl) ⟨Nat.le_of_ble_eq_true rfl, Nat.le_of_ble_eq_true rfl⟩ dX10_holds_66 (fun H locs hw => ?_)
    refine lv_aload_n fx.1 fx.2.1 dX10_holds_69 rfl (lv_at hl 1 rfl) ?_
    refine g_geti fx hw h3 lf_RX10_185 rfl dX10_holds_70 ?_
    refine g_if_eq (tgt := 79) fx dX10_holds_73 (by decide) hok (fun hok => ?_) (fun hok => ?_)
    · refine lv_aload_n fx.1 fx.2.1 dX10_holds_79 rfl (lv_at hl 0 rfl) ?_
      refine g_getr fx hw h0 lf_RX10_73 rfl dX10_holds_80 hok (fun a12 h_a12 hok => ?_)
      obtain ⟨G13, hf, hok⟩ := gOk_bind hok
      refine g_callV0 (κ := 6) fx hw (c_X6_endSeason l X τ a12 G11 h_a12 hf) lv_RX10_380 ⟨rfl, rfl⟩ rfl rfl h_a12 rfl hl.1 rfl ⟨Nat.le_of_ble_eq_true rfl, Nat.le_of_ble_eq_true rfl⟩ (Nat.le_of_ble_eq_true rfl) ⟨Nat.le_of_ble_eq_true rfl, Nat.le_of_ble_eq_true rfl⟩ dX10_holds_83 (fun H locs hw => ?_)
      obtain ⟨v14, e_v14, hok⟩ := gOk_let hok
      refine lv_iinc (v := v14) (lv' := [(4, .int v14), (0, .ref x0), (3, .ref x3)]) fx.1 fx.2.1 dX10_holds_86 hl (k := 2) rfl (by rw [e_v14]; rfl) (by decide) rfl (fun ls hl => ?_)
      refine lv_goto (tgt := 49) fx.1 fx.2.1 dX10_holds_89 (by decide) ?_
      exact hc v14 G13 _ _ _  hw (lv_sub hl [1, 2, 0] rfl) (gOk_some hok)
    · exact hx1 x4 G11 _ _ _  hw (lv_sub hl [2] rfl) (gOk_some hok)
theorem w_l_X10_holds_49 {X : gX} {τ : gτ} {p : Program} {l : Launch} {e : Env} {s : State} {m : MethodId} {args : Array Value} {below : List Frame} {meth : Method} {c : Code} (fx : gFx X p s m args meth c cX10_holds 5 RX10) (hS : gS0 l X) (hxt : ∀ x ∈ c.exceptionTable.toList, False) (n : Nat) (x0 : Nat) (x3 : Nat) (h0 : gK τ x0 10) (h3 : gK τ x3 5) {Q : State → Prop} {K : ((gG) ⊕ (Int32 × gG)) → Prop} (hx0 : ∀ (G : gG) (H : Heap) (locs : List Loc) (ls : Array Slot), gHw X τ G H locs → lv_has ls 5 [] → K (.inl G) → W p l e rm_X10_holds s m args below meth c H locs 1 6 Q (F0 m 92 ls [])) (hx1 : ∀ (y4 : Int32) (G : gG) (H : Heap) (locs : List Loc) (ls : Array Slot), gHw X τ G H locs → lv_has ls 5 [(4, .int y4)] → K (.inr (y4, G)) → W p l e rm_X10_holds s m args below meth c H locs 1 6 Q (F0 m 76 ls [])) : ∀ (k : Nat) (x4 : Int32) (G : gG) (H : Heap) (locs : List Loc) (ls : Array Slot), gHw X τ G H locs → lv_has ls 5 [(0, .ref x0), (3, .ref x3), (4, .int x4)] → gOk (gIter (fun (q : Int32 × gG) => b_X10_holds_49 τ n x0 x3 q.1 q.2) k (x4, G)) K → W p l e rm_X10_holds s m args below meth c H locs 1 6 Q (F0 m 49 ls []) := by
  intro k
  induction k with
  | zero =>
    intro x4 G H locs ls hw hl hok
    exact gOk_iter0 hok
  | succ k hc =>
    intro x4 G H locs ls hw hl hok
    exact w_b_X10_holds_49 fx hS hxt n x0 x3 x4 h0 h3 hw hl (gOk_iter hok) hc hx0 hx1
set_option maxHeartbeats 4000000 in
set_option maxRecDepth 100000 in
theorem c_X10_holds (l : Launch) (X : gX) (τ : gτ) (n : Nat) (hS : gS0 l X) (x0 : Nat) (x1 : Int32) (x2 : Int32) (G : gG) (h0 : gK τ x0 10) {r : String ⊕ Int32} {G' : gG} (h : f_X10_holds τ n x0 x1 x2 G = some (r, G')) : gMX l X τ yX10_holds cX10_holds 5 (some .int) rm_X10_holds [.ref x0, .int x1, .int x2] G (gOi r) G' := by
  refine g_bodyX (by decide +kernel) (Nat.le_of_ble_eq_true rfl) ?_
  intro p e s m args below meth c ls fx hr hxt hw hl
  have fx : gFx X p s m args meth c cX10_holds 5 RX10 := fx
  have hl : lv_has ls 5 [(0, .ref x0), (1, .int x1), (2, .int x2)] := hl
  have hok : gOk (f_X10_holds τ n x0 x1 x2 G) (fun q => q = (r, G')) := ⟨_, h, rfl⟩
  unfold f_X10_holds at hok
  show W p l e rm_X10_holds s m args below meth c s.heap [] 0 0 (vx_MQ below (gQX X τ (gOi r) G') (gXC X τ (gOi r) G') args s rm_X10_holds.cells rm_X10_holds.slots (gFree X)) _
  refine lv_aload_n fx.1 fx.2.1 dX10_holds_0 rfl (lv_at hl 0 rfl) ?_
  refine lv_iload_n fx.1 fx.2.1 dX10_holds_1 rfl (lv_at hl 1 rfl) ?_
  rcases gOk_bindX hok with ⟨E, G9, hf, hK⟩ | ⟨a1, G2, hf, hok⟩
  · have hK : (Sum.inl E, G9) = (r, G') := hK
    cases hK
    refine g_callVX (κ := 10) (As := [.int x1]) fx hw hxt (c_X10_ropeOf l X τ hS x0 x1 G h0 hf) lv_RX10_156 rfl rfl h0 rfl hl.1 rfl ⟨Nat.le_of_ble_eq_true rfl, Nat.le_of_ble_eq_true rfl⟩ (Nat.le_of_ble_eq_true rfl) ⟨Nat.le_of_ble_eq_true rfl, Nat.le_of_ble_eq_true rfl⟩ ⟨Nat.le_of_ble_eq_true rfl, Nat.le_of_ble_eq_true rfl⟩ dX10_holds_2 (fun u H locs hv hw => ?_) (fun E9 hE => ?_)
    · have hv : (Sum.inl E : String ⊕ Option Value) = Sum.inr u := hv
      cases hv
    · have hE : (Sum.inl E : String ⊕ Option Value) = Sum.inl E9 := hE
      cases hE
      exact ⟨rfl, rfl⟩
  refine g_callVX (κ := 10) (As := [.int x1]) fx hw hxt (c_X10_ropeOf l X τ hS x0 x1 G h0 hf) lv_RX10_156 rfl rfl h0 rfl hl.1 rfl ⟨Nat.le_of_ble_eq_true rfl, Nat.le_of_ble_eq_true rfl⟩ (Nat.le_of_ble_eq_true rfl) ⟨Nat.le_of_ble_eq_true rfl, Nat.le_of_ble_eq_true rfl⟩ ⟨Nat.le_of_ble_eq_true rfl, Nat.le_of_ble_eq_true rfl⟩ dX10_holds_2 (fun u9 H locs hv hw => ?_) (fun E9 hE => by have hE : (Sum.inr (some (.ref a1)) : String ⊕ Option Value) = Sum.inl E9 := hE; cases hE)
  have hv : (Sum.inr (some (.ref a1)) : String ⊕ Option Value) = Sum.inr u9 := hv
  cases hv
  obtain ⟨h_a1, hok⟩ := gOk_chk hok
  have h_a1 : gK τ a1 5 := gkd_K h_a1
  refine lv_pop fx.1 fx.2.1 dX10_holds_5 rfl ?_
  refine lv_aload_n fx.1 fx.2.1 dX10_holds_6 rfl (lv_at hl 0 rfl) ?_
  refine g_getr fx hw h0 lf_RX10_73 rfl dX10_holds_7 hok (fun a3 h_a3 hok => ?_)
  refine lv_aload_n fx.1 fx.2.1 dX10_holds_10 rfl (lv_at hl 0 rfl) ?_
  refine g_getr fx hw h0 lf_RX10_70 rfl dX10_holds_11 hok (fun a4 h_a4 hok => ?_)
  obtain ⟨G5, hf, hok⟩ := gOk_bind hok
  refine g_callV0 (κ := 6) fx hw (c_X6_become l X τ n a3 a4 G2 h_a3 h_a4 hf) lv_RX10_90 ⟨rfl, rfl⟩ rfl rfl h_a3 rfl hl.1 rfl ⟨Nat.le_of_ble_eq_true rfl, Nat.le_of_ble_eq_true rfl⟩ (Nat.le_of_ble_eq_true rfl) ⟨Nat.le_of_ble_eq_true rfl, Nat.le_of_ble_eq_true rfl⟩ dX10_holds_14 (fun H locs hw => ?_)
  refine lv_aload_n fx.1 fx.2.1 dX10_holds_17 rfl (lv_at hl 0 rfl) ?_
  refine g_getr fx hw h0 lf_RX10_73 rfl dX10_holds_18 hok (fun a6 h_a6 hok => ?_)
  refine g_getr fx hw h_a6 lf_RX10_325 rfl dX10_holds_21 hok (fun a7 h_a7 hok => ?_)
  refine lv_iload_n fx.1 fx.2.1 dX10_holds_24 rfl (lv_at hl 1 rfl) ?_
  refine g_aald fx hw 15 3 h_a7 (by decide) (by decide) rfl (κ' := 5) rfl dX10_holds_25 hok (fun a8 h_a8 hok => ?_)
  refine lv_astore_n (lv' := [(3, .ref a8), (0, .ref x0), (1, .int x1), (2, .int x2)]) fx.1 fx.2.1 dX10_holds_26 rfl hl (by decide) rfl (fun ls hl => ?_)
  refine lv_iload_n fx.1 fx.2.1 dX10_holds_27 rfl (lv_at hl 3 rfl) ?_
  refine g_if_eq (tgt := 37) fx dX10_holds_28 (by decide) hok (fun hok => ?_) (fun hok => ?_)
  · refine lv_aload_n fx.1 fx.2.1 dX10_holds_37 rfl (lv_at hl 0 rfl) ?_
    refine g_geti fx hw h_a8 lf_RX10_185 rfl dX10_holds_38 ?_
    refine g_if_eq (tgt := 46) fx dX10_holds_41 (by decide) hok (fun hok => ?_) (fun hok => ?_)
    · refine lv_iconst (v := 0) fx.1 fx.2.1 dX10_holds_46 (by decide) ?_
      refine lv_istore (lv' := [(4, .int (0 : Int32)), (3, .ref a8), (0, .ref x0), (1, .int x1), (2, .int x2)]) fx.1 fx.2.1 dX10_holds_47 hl (by decide) rfl (fun ls hl => ?_)
      refine w_l_X10_holds_49 fx hS hxt n x0 a8 h0 h_a8 ?_ ?_ n (0 : Int32) G5 _ _ _  hw (lv_sub hl [2, 1, 0] rfl) (gOk_bindK hok)
      · intro G15 H locs ls hw hl hok
        have hok : gOk (ρ := (String ⊕ Int32) × gG) (some (.inr (40 : Int32), G15)) _ := hok
        refine lv_bipush (v := 40) fx.1 fx.2.1 dX10_holds_92 (by decide) ?_
        cases gOk_some hok
        exact g_iretX fx hw hr ⟨Nat.le_of_ble_eq_true rfl, Nat.le_of_ble_eq_true rfl⟩ dX10_holds_94
      · intro z16 G17 H locs ls hw hl hok
        have hok : gOk (ρ := (String ⊕ Int32) × gG) (some (.inr z16, G17)) _ := hok
        refine lv_iload fx.1 fx.2.1 dX10_holds_76 (lv_at hl 0 rfl) ?_
        cases gOk_some hok
        exact g_iretX fx hw hr ⟨Nat.le_of_ble_eq_true rfl, Nat.le_of_ble_eq_true rfl⟩ dX10_holds_78
    · refine lv_iconst (v := 0) fx.1 fx.2.1 dX10_holds_44 (by decide) ?_
      cases gOk_some hok
      exact g_iretX fx hw hr ⟨Nat.le_of_ble_eq_true rfl, Nat.le_of_ble_eq_true rfl⟩ dX10_holds_45
  · refine lv_aload_n fx.1 fx.2.1 dX10_holds_31 rfl (lv_at hl 1 rfl) ?_
    refine lv_aload_n fx.1 fx.2.1 dX10_holds_32 rfl (lv_at hl 0 rfl) ?_
    obtain ⟨v18, G19, hf, hok⟩ := gOk_bind2 hok
    refine g_callV0 (κ := 10) fx hw (c_X10_seasonsTillChange l X τ n x0 a8 G5 h0 h_a8 hf) lv_RX10_373 ⟨rfl, rfl⟩ rfl rfl h0 rfl hl.1 rfl ⟨Nat.le_of_ble_eq_true rfl, Nat.le_of_ble_eq_true rfl⟩ (Nat.le_of_ble_eq_true rfl) ⟨Nat.le_of_ble_eq_true rfl, Nat.le_of_ble_eq_true rfl⟩ dX10_holds_33 (fun H locs hw => ?_)
    cases gOk_some hok
    exact g_iretX fx hw hr ⟨Nat.le_of_ble_eq_true rfl, Nat.le_of_ble_eq_true rfl⟩ dX10_holds_36
theorem dX10_would_0 : decode cX10_would 0 = .ok (.aload_n 0, 1) := by decide +kernel
theorem dX10_would_1 : decode cX10_would 1 = .ok (.getfield 56, 3) := by decide +kernel
theorem dX10_would_4 : decode cX10_would 4 = .ok (.aload_n 0, 1) := by decide +kernel
theorem dX10_would_5 : decode cX10_would 5 = .ok (.iload_n 1, 1) := by decide +kernel
theorem dX10_would_6 : decode cX10_would 6 = .ok (.invokevirtual 156, 3) := by decide +kernel
theorem dX10_would_9 : decode cX10_would 9 = .ok (.invokevirtual 383, 3) := by decide +kernel
theorem dX10_would_12 : decode cX10_would 12 = .ok (.iload_n 2, 1) := by decide +kernel
theorem dX10_would_13 : decode cX10_would 13 = .ok (.tableswitch 68 0 2 #[27, 37, 57], 27) := by decide +kernel
theorem dX10_would_40 : decode cX10_would 40 = .ok (.aload_n 0, 1) := by decide +kernel
theorem dX10_would_41 : decode cX10_would 41 = .ok (.getfield 56, 3) := by decide +kernel
theorem dX10_would_44 : decode cX10_would 44 = .ok (.invokevirtual 252, 3) := by decide +kernel
theorem dX10_would_47 : decode cX10_would 47 = .ok (.goto 45, 3) := by decide +kernel
theorem dX10_would_50 : decode cX10_would 50 = .ok (.aload_n 0, 1) := by decide +kernel
theorem dX10_would_51 : decode cX10_would 51 = .ok (.getfield 56, 3) := by decide +kernel
theorem dX10_would_54 : decode cX10_would 54 = .ok (.invokevirtual 255, 3) := by decide +kernel
theorem dX10_would_57 : decode cX10_would 57 = .ok (.ifCond .eq 35, 3) := by decide +kernel
theorem dX10_would_60 : decode cX10_would 60 = .ok (.aload_n 0, 1) := by decide +kernel
theorem dX10_would_61 : decode cX10_would 61 = .ok (.getfield 56, 3) := by decide +kernel
theorem dX10_would_64 : decode cX10_would 64 = .ok (.invokevirtual 261, 3) := by decide +kernel
theorem dX10_would_67 : decode cX10_would 67 = .ok (.goto 25, 3) := by decide +kernel
theorem dX10_would_70 : decode cX10_would 70 = .ok (.aload_n 0, 1) := by decide +kernel
theorem dX10_would_71 : decode cX10_would 71 = .ok (.getfield 56, 3) := by decide +kernel
theorem dX10_would_74 : decode cX10_would 74 = .ok (.iconst 1, 1) := by decide +kernel
theorem dX10_would_75 : decode cX10_would 75 = .ok (.putfield 178, 3) := by decide +kernel
theorem dX10_would_78 : decode cX10_would 78 = .ok (.goto 14, 3) := by decide +kernel
theorem dX10_would_81 : decode cX10_would 81 = .ok (.new 151, 3) := by decide +kernel
theorem dX10_would_84 : decode cX10_would 84 = .ok (.dup, 1) := by decide +kernel
theorem dX10_would_85 : decode cX10_would 85 = .ok (.ldc_w 386, 3) := by decide +kernel
theorem dX10_would_88 : decode cX10_would 88 = .ok (.invokespecial 155, 3) := by decide +kernel
theorem dX10_would_91 : decode cX10_would 91 = .ok (.athrow, 1) := by decide +kernel
theorem dX10_would_92 : decode cX10_would 92 = .ok (.aload_n 0, 1) := by decide +kernel
theorem dX10_would_93 : decode cX10_would 93 = .ok (.getfield 70, 3) := by decide +kernel
theorem dX10_would_96 : decode cX10_would 96 = .ok (.aload_n 0, 1) := by decide +kernel
theorem dX10_would_97 : decode cX10_would 97 = .ok (.getfield 56, 3) := by decide +kernel
theorem dX10_would_100 : decode cX10_would 100 = .ok (.aload_n 0, 1) := by decide +kernel
theorem dX10_would_101 : decode cX10_would 101 = .ok (.getfield 76, 3) := by decide +kernel
theorem dX10_would_104 : decode cX10_would 104 = .ok (.invokevirtual 191, 3) := by decide +kernel
theorem dX10_would_107 : decode cX10_would 107 = .ok (.ireturn, 1) := by decide +kernel
theorem lv_RX10_383 : gLv RX10 383 RX5 yX5_become cX5_become 2 none 1 := gLv_of (wA_t (wt6 (List.mem_of_getElem? (i := 132) (by decide +kernel))) (by decide +kernel)) (wA_t (wt3 (List.mem_of_getElem? (i := 104) (by decide +kernel))) (by decide +kernel)) (wA_t (wt3 (List.mem_of_getElem? (i := 105) (by decide +kernel))) (by decide +kernel)) (wA_t (wt1 (List.mem_of_getElem? (i := 9) (by decide +kernel))) (by decide +kernel)) (wA_t (wt3 (List.mem_of_getElem? (i := 106) (by decide +kernel))) (by decide +kernel)) ⟨rfl, by decide +kernel, by decide +kernel, by decide +kernel⟩
def rm_X10_would : Room := { frames := 7, cells := 2, slots := 12, locals := 141 }
def k_X10_would_92 (τ : gτ) (n : Nat) (x0 : Nat)  (G : gG) : Option ((String ⊕ Int32) × gG) :=
  (gr G 10 10 x0).bind fun a7 =>
  (gr G 10 6 x0).bind fun a8 =>
  (gr G 10 12 x0).bind fun a9 =>
  gBind2 (f_X6_bearing τ n a7 a8 a9 G) fun v10 G11 =>
  some (.inr v10, G11)
def f_X10_would (τ : gτ) (n : Nat) (x0 : Nat) (x1 : Int32) (x2 : Int32) (G : gG) : Option ((String ⊕ Int32) × gG) :=
  (gr G 10 6 x0).bind fun a1 =>
  gBindX (f_X10_ropeOf τ x0 x1 G) fun a2 G3 =>
  gchk (gkd τ a2 5) <|
  (f_X5_become a1 a2 G3).bind fun G4 =>
  if x2 = 0 then ((gr G4 10 6 x0).bind fun a5 =>
  (f_X5_tarOnce a5 G4).bind fun G6 =>
  k_X10_would_92 τ n x0  G6)
  else if x2 = 1 then ((gr G4 10 6 x0).bind fun a12 =>
  (f_X5_canDouble a12 G4).bind fun v13 =>
  if v13 = 0 then (k_X10_would_92 τ n x0  G4)
  else ((gr G4 10 6 x0).bind fun a14 =>
  (f_X5_makeDouble a14 G4).bind fun G15 =>
  k_X10_would_92 τ n x0  G15))
  else if x2 = 2 then ((gr G4 10 6 x0).bind fun a16 =>
  gLet (gsi G4 5 8 a16 (1 : Int32)) fun G17 =>
  k_X10_would_92 τ n x0  G17)
  else (some (.inl x_NSE, G4))
set_option maxHeartbeats 4000000 in
set_option maxRecDepth 100000 in
theorem w_X10_would_92 {X : gX} {τ : gτ} {p : Program} {l : Launch} {e : Env} {s : State} {m : MethodId} {args : Array Value} {below : List Frame} {meth : Method} {c : Code} (fx : gFx X p s m args meth c cX10_would 3 RX10) (hS : gS0 l X) (hxt : ∀ x ∈ c.exceptionTable.toList, False) (n : Nat) (x0 : Nat)  (h0 : gK τ x0 10)  (hr : meth.sig.returnType = (some .int)) {r : String ⊕ Int32} {G' : gG} {G : gG} {H : Heap} {locs : List Loc} {ls : Array Slot} (hw : gHw X τ G H locs) (hl : lv_has ls 3 [(0, .ref x0)]) (hok : gOk (k_X10_would_92 τ n x0  G) (fun q => q = (r, G')))  : W p l e rm_X10_would s m args below meth c H locs 1 6 (vx_MQ below (gQX X τ (gOi r) G') (gXC X τ (gOi r) G') args s rm_X10_would.cells rm_X10_would.slots (gFree X)) (F0 m 92 ls []) := by
  unfold k_X10_would_92 at hok
  refine lv_aload_n fx.1 fx.2.1 dX10_would_92 rfl (lv_at hl 0 rfl) ?_
  refine g_getr fx hw h0 lf_RX10_70 rfl dX10_would_93 hok (fun a7 h_a7 hok => ?_)
  refine lv_aload_n fx.1 fx.2.1 dX10_would_96 rfl (lv_at hl 0 rfl) ?_
  refine g_getr fx hw h0 lf_RX10_56 rfl dX10_would_97 hok (fun a8 h_a8 hok => ?_)
  refine lv_aload_n fx.1 fx.2.1 dX10_would_100 rfl (lv_at hl 0 rfl) ?_
  refine g_getr fx hw h0 lf_RX10_76 rfl dX10_would_101 hok (fun a9 h_a9 hok => ?_)
  obtain ⟨v10, G11, hf, hok⟩ := gOk_bind2 hok
  refine g_callV0 (κ := 6) fx hw (c_X6_bearing l X τ n a7 a8 a9 G h_a7 h_a8 h_a9 hf) lv_RX10_191 ⟨rfl, rfl⟩ rfl rfl h_a7 rfl hl.1 rfl ⟨Nat.le_of_ble_eq_true rfl, Nat.le_of_ble_eq_true rfl⟩ (Nat.le_of_ble_eq_true rfl) ⟨Nat.le_of_ble_eq_true rfl, Nat.le_of_ble_eq_true rfl⟩ dX10_would_104 (fun H locs hw => ?_)
  cases gOk_some hok
  exact g_iretX fx hw hr ⟨Nat.le_of_ble_eq_true rfl, Nat.le_of_ble_eq_true rfl⟩ dX10_would_107
set_option maxHeartbeats 4000000 in
set_option maxRecDepth 100000 in
theorem c_X10_would (l : Launch) (X : gX) (τ : gτ) (n : Nat) (hS : gS0 l X) (x0 : Nat) (x1 : Int32) (x2 : Int32) (G : gG) (h0 : gK τ x0 10) {r : String ⊕ Int32} {G' : gG} (h : f_X10_would τ n x0 x1 x2 G = some (r, G')) : gMX l X τ yX10_would cX10_would 3 (some .int) rm_X10_would [.ref x0, .int x1, .int x2] G (gOi r) G' := by
  refine g_bodyX (by decide +kernel) (Nat.le_of_ble_eq_true rfl) ?_
  intro p e s m args below meth c ls fx hr hxt hw hl
  have fx : gFx X p s m args meth c cX10_would 3 RX10 := fx
  have hl : lv_has ls 3 [(0, .ref x0), (1, .int x1), (2, .int x2)] := hl
  have hok : gOk (f_X10_would τ n x0 x1 x2 G) (fun q => q = (r, G')) := ⟨_, h, rfl⟩
  unfold f_X10_would at hok
  show W p l e rm_X10_would s m args below meth c s.heap [] 0 0 (vx_MQ below (gQX X τ (gOi r) G') (gXC X τ (gOi r) G') args s rm_X10_would.cells rm_X10_would.slots (gFree X)) _
  refine lv_aload_n fx.1 fx.2.1 dX10_would_0 rfl (lv_at hl 0 rfl) ?_
  refine g_getr fx hw h0 lf_RX10_56 rfl dX10_would_1 hok (fun a1 h_a1 hok => ?_)
  refine lv_aload_n fx.1 fx.2.1 dX10_would_4 rfl (lv_at hl 0 rfl) ?_
  refine lv_iload_n fx.1 fx.2.1 dX10_would_5 rfl (lv_at hl 1 rfl) ?_
  rcases gOk_bindX hok with ⟨E, G9, hf, hK⟩ | ⟨a2, G3, hf, hok⟩
  · have hK : (Sum.inl E, G9) = (r, G') := hK
    cases hK
    refine g_callVX (κ := 10) (As := [.int x1]) fx hw hxt (c_X10_ropeOf l X τ hS x0 x1 G h0 hf) lv_RX10_156 rfl rfl h0 rfl hl.1 rfl ⟨Nat.le_of_ble_eq_true rfl, Nat.le_of_ble_eq_true rfl⟩ (Nat.le_of_ble_eq_true rfl) ⟨Nat.le_of_ble_eq_true rfl, Nat.le_of_ble_eq_true rfl⟩ ⟨Nat.le_of_ble_eq_true rfl, Nat.le_of_ble_eq_true rfl⟩ dX10_would_6 (fun u H locs hv hw => ?_) (fun E9 hE => ?_)
    · have hv : (Sum.inl E : String ⊕ Option Value) = Sum.inr u := hv
      cases hv
    · have hE : (Sum.inl E : String ⊕ Option Value) = Sum.inl E9 := hE
      cases hE
      exact ⟨rfl, rfl⟩
  refine g_callVX (κ := 10) (As := [.int x1]) fx hw hxt (c_X10_ropeOf l X τ hS x0 x1 G h0 hf) lv_RX10_156 rfl rfl h0 rfl hl.1 rfl ⟨Nat.le_of_ble_eq_true rfl, Nat.le_of_ble_eq_true rfl⟩ (Nat.le_of_ble_eq_true rfl) ⟨Nat.le_of_ble_eq_true rfl, Nat.le_of_ble_eq_true rfl⟩ ⟨Nat.le_of_ble_eq_true rfl, Nat.le_of_ble_eq_true rfl⟩ dX10_would_6 (fun u9 H locs hv hw => ?_) (fun E9 hE => by have hE : (Sum.inr (some (.ref a2)) : String ⊕ Option Value) = Sum.inl E9 := hE; cases hE)
  have hv : (Sum.inr (some (.ref a2)) : String ⊕ Option Value) = Sum.inr u9 := hv
  cases hv
  obtain ⟨h_a2, hok⟩ := gOk_chk hok
  have h_a2 : gK τ a2 5 := gkd_K h_a2
  obtain ⟨G4, hf, hok⟩ := gOk_bind hok
  refine g_callV0 (κ := 5) fx hw (c_X5_become l X τ a1 a2 G3 h_a1 h_a2 hf) lv_RX10_383 ⟨rfl, rfl⟩ rfl rfl h_a1 rfl hl.1 rfl ⟨Nat.le_of_ble_eq_true rfl, Nat.le_of_ble_eq_true rfl⟩ (Nat.le_of_ble_eq_true rfl) ⟨Nat.le_of_ble_eq_true rfl, Nat.le_of_ble_eq_true rfl⟩ dX10_would_9 (fun H locs hw => ?_)
  refine lv_iload_n fx.1 fx.2.1 dX10_would_12 rfl (lv_at hl 2 rfl) ?_
  by_cases hc0 : x2 = 0
  · have hok := gOk_t hok hc0
    refine lv_tableIn (tgt := 40) fx.1 fx.2.1 dX10_would_13 (by rw [hc0]; decide) (by rw [hc0]; decide) (by rw [hc0]; rfl) (by decide) ?_
    refine lv_aload_n fx.1 fx.2.1 dX10_would_40 rfl (lv_at hl 0 rfl) ?_
    refine g_getr fx hw h0 lf_RX10_56 rfl dX10_would_41 hok (fun a5 h_a5 hok => ?_)
    obtain ⟨G6, hf, hok⟩ := gOk_bind hok
    refine g_callV0 (κ := 5) fx hw (c_X5_tarOnce l X τ a5 G4 h_a5 hf) lv_RX10_252 ⟨rfl, rfl⟩ rfl rfl h_a5 rfl hl.1 rfl ⟨Nat.le_of_ble_eq_true rfl, Nat.le_of_ble_eq_true rfl⟩ (Nat.le_of_ble_eq_true rfl) ⟨Nat.le_of_ble_eq_true rfl, Nat.le_of_ble_eq_true rfl⟩ dX10_would_44 (fun H locs hw => ?_)
    refine lv_goto (tgt := 92) fx.1 fx.2.1 dX10_would_47 (by decide) ?_
    exact w_X10_would_92 fx hS hxt n x0  h0  hr hw (lv_sub hl [0] rfl) hok
  have hok := gOk_f hok hc0
  by_cases hc1 : x2 = 1
  · have hok := gOk_t hok hc1
    refine lv_tableIn (tgt := 50) fx.1 fx.2.1 dX10_would_13 (by rw [hc1]; decide) (by rw [hc1]; decide) (by rw [hc1]; rfl) (by decide) ?_
    refine lv_aload_n fx.1 fx.2.1 dX10_would_50 rfl (lv_at hl 0 rfl) ?_
    refine g_getr fx hw h0 lf_RX10_56 rfl dX10_would_51 hok (fun a12 h_a12 hok => ?_)
    obtain ⟨v13, hf, hok⟩ := gOk_bind hok
    refine g_callV0 (κ := 5) fx hw (c_X5_canDouble l X τ a12 G4 h_a12 hf) lv_RX10_255 ⟨rfl, rfl⟩ rfl rfl h_a12 rfl hl.1 rfl ⟨Nat.le_of_ble_eq_true rfl, Nat.le_of_ble_eq_true rfl⟩ (Nat.le_of_ble_eq_true rfl) ⟨Nat.le_of_ble_eq_true rfl, Nat.le_of_ble_eq_true rfl⟩ dX10_would_54 (fun H locs hw => ?_)
    refine g_if_eq (tgt := 92) fx dX10_would_57 (by decide) hok (fun hok => ?_) (fun hok => ?_)
    · exact w_X10_would_92 fx hS hxt n x0  h0  hr hw (lv_sub hl [0] rfl) hok
    · refine lv_aload_n fx.1 fx.2.1 dX10_would_60 rfl (lv_at hl 0 rfl) ?_
      refine g_getr fx hw h0 lf_RX10_56 rfl dX10_would_61 hok (fun a14 h_a14 hok => ?_)
      obtain ⟨G15, hf, hok⟩ := gOk_bind hok
      refine g_callV0 (κ := 5) fx hw (c_X5_makeDouble l X τ a14 G4 h_a14 hf) lv_RX10_261 ⟨rfl, rfl⟩ rfl rfl h_a14 rfl hl.1 rfl ⟨Nat.le_of_ble_eq_true rfl, Nat.le_of_ble_eq_true rfl⟩ (Nat.le_of_ble_eq_true rfl) ⟨Nat.le_of_ble_eq_true rfl, Nat.le_of_ble_eq_true rfl⟩ dX10_would_64 (fun H locs hw => ?_)
      refine lv_goto (tgt := 92) fx.1 fx.2.1 dX10_would_67 (by decide) ?_
      exact w_X10_would_92 fx hS hxt n x0  h0  hr hw (lv_sub hl [0] rfl) hok
  have hok := gOk_f hok hc1
  by_cases hc2 : x2 = 2
  · have hok := gOk_t hok hc2
    refine lv_tableIn (tgt := 70) fx.1 fx.2.1 dX10_would_13 (by rw [hc2]; decide) (by rw [hc2]; decide) (by rw [hc2]; rfl) (by decide) ?_
    refine lv_aload_n fx.1 fx.2.1 dX10_would_70 rfl (lv_at hl 0 rfl) ?_
    refine g_getr fx hw h0 lf_RX10_56 rfl dX10_would_71 hok (fun a16 h_a16 hok => ?_)
    refine lv_iconst (v := 1) fx.1 fx.2.1 dX10_would_74 (by decide) ?_
    refine g_putz fx hw h_a16 lp_RX10_178 rfl rfl (by decide) dX10_would_75 hok (fun G17 H locs hw hok => ?_)
    refine lv_goto (tgt := 92) fx.1 fx.2.1 dX10_would_78 (by decide) ?_
    exact w_X10_would_92 fx hS hxt n x0  h0  hr hw (lv_sub hl [0] rfl) hok
  have hok := gOk_f hok hc2
  refine lv_tableOut (tgt := 81) fx.1 fx.2.1 dX10_would_13 (gOut 0 3 (by decide) (by decide) (by decide) (by decide) (fun j hj => ?_)) (by decide) ?_
  · match j, hj with
    | 0, _ => exact hc0
    | 1, _ => exact hc1
    | 2, _ => exact hc2
  · cases gOk_some hok
    exact g_throwNW fx hw hS hl.1 hxt lxn_RX10_151 gt_RX10_386 dX10_would_81 dX10_would_84 dX10_would_85 dX10_would_88 dX10_would_91 ⟨Nat.le_of_ble_eq_true rfl, Nat.le_of_ble_eq_true rfl, Nat.le_of_ble_eq_true rfl, Nat.le_of_ble_eq_true rfl⟩ ⟨Nat.le_of_ble_eq_true rfl, Nat.le_of_ble_eq_true rfl⟩
theorem dX10_weakest_0 : decode cX10_weakest 0 = .ok (.iconst (-1), 1) := by decide +kernel
theorem dX10_weakest_1 : decode cX10_weakest 1 = .ok (.istore_n 1, 1) := by decide +kernel
theorem dX10_weakest_2 : decode cX10_weakest 2 = .ok (.iconst 0, 1) := by decide +kernel
theorem dX10_weakest_3 : decode cX10_weakest 3 = .ok (.istore_n 2, 1) := by decide +kernel
theorem dX10_weakest_4 : decode cX10_weakest 4 = .ok (.iconst 0, 1) := by decide +kernel
theorem dX10_weakest_5 : decode cX10_weakest 5 = .ok (.istore_n 3, 1) := by decide +kernel
theorem dX10_weakest_6 : decode cX10_weakest 6 = .ok (.iload_n 3, 1) := by decide +kernel
theorem dX10_weakest_7 : decode cX10_weakest 7 = .ok (.aload_n 0, 1) := by decide +kernel
theorem dX10_weakest_8 : decode cX10_weakest 8 = .ok (.getfield 70, 3) := by decide +kernel
theorem dX10_weakest_11 : decode cX10_weakest 11 = .ok (.getfield 286, 3) := by decide +kernel
theorem dX10_weakest_14 : decode cX10_weakest 14 = .ok (.if_icmp .ge 65, 3) := by decide +kernel
theorem dX10_weakest_17 : decode cX10_weakest 17 = .ok (.aload_n 0, 1) := by decide +kernel
theorem dX10_weakest_18 : decode cX10_weakest 18 = .ok (.getfield 70, 3) := by decide +kernel
theorem dX10_weakest_21 : decode cX10_weakest 21 = .ok (.getfield 325, 3) := by decide +kernel
theorem dX10_weakest_24 : decode cX10_weakest 24 = .ok (.iload_n 3, 1) := by decide +kernel
theorem dX10_weakest_25 : decode cX10_weakest 25 = .ok (.aaload, 1) := by decide +kernel
theorem dX10_weakest_26 : decode cX10_weakest 26 = .ok (.astore 4, 2) := by decide +kernel
theorem dX10_weakest_28 : decode cX10_weakest 28 = .ok (.aload 4, 2) := by decide +kernel
theorem dX10_weakest_30 : decode cX10_weakest 30 = .ok (.getfield 185, 3) := by decide +kernel
theorem dX10_weakest_33 : decode cX10_weakest 33 = .ok (.ifCond .ne 40, 3) := by decide +kernel
theorem dX10_weakest_36 : decode cX10_weakest 36 = .ok (.aload_n 0, 1) := by decide +kernel
theorem dX10_weakest_37 : decode cX10_weakest 37 = .ok (.getfield 70, 3) := by decide +kernel
theorem dX10_weakest_40 : decode cX10_weakest 40 = .ok (.aload 4, 2) := by decide +kernel
theorem dX10_weakest_42 : decode cX10_weakest 42 = .ok (.aload_n 0, 1) := by decide +kernel
theorem dX10_weakest_43 : decode cX10_weakest 43 = .ok (.getfield 76, 3) := by decide +kernel
theorem dX10_weakest_46 : decode cX10_weakest 46 = .ok (.invokevirtual 191, 3) := by decide +kernel
theorem dX10_weakest_49 : decode cX10_weakest 49 = .ok (.aload 4, 2) := by decide +kernel
theorem dX10_weakest_51 : decode cX10_weakest 51 = .ok (.getfield 188, 3) := by decide +kernel
theorem dX10_weakest_54 : decode cX10_weakest 54 = .ok (.isub, 1) := by decide +kernel
theorem dX10_weakest_55 : decode cX10_weakest 55 = .ok (.istore 5, 2) := by decide +kernel
theorem dX10_weakest_57 : decode cX10_weakest 57 = .ok (.iload_n 1, 1) := by decide +kernel
theorem dX10_weakest_58 : decode cX10_weakest 58 = .ok (.iconst (-1), 1) := by decide +kernel
theorem dX10_weakest_59 : decode cX10_weakest 59 = .ok (.if_icmp .eq 9, 3) := by decide +kernel
theorem dX10_weakest_62 : decode cX10_weakest 62 = .ok (.iload 5, 2) := by decide +kernel
theorem dX10_weakest_64 : decode cX10_weakest 64 = .ok (.iload_n 2, 1) := by decide +kernel
theorem dX10_weakest_65 : decode cX10_weakest 65 = .ok (.if_icmp .ge 8, 3) := by decide +kernel
theorem dX10_weakest_68 : decode cX10_weakest 68 = .ok (.iload 5, 2) := by decide +kernel
theorem dX10_weakest_70 : decode cX10_weakest 70 = .ok (.istore_n 2, 1) := by decide +kernel
theorem dX10_weakest_71 : decode cX10_weakest 71 = .ok (.iload_n 3, 1) := by decide +kernel
theorem dX10_weakest_72 : decode cX10_weakest 72 = .ok (.istore_n 1, 1) := by decide +kernel
theorem dX10_weakest_73 : decode cX10_weakest 73 = .ok (.iinc 3 1, 3) := by decide +kernel
theorem dX10_weakest_76 : decode cX10_weakest 76 = .ok (.goto (-70), 3) := by decide +kernel
theorem dX10_weakest_79 : decode cX10_weakest 79 = .ok (.iload_n 1, 1) := by decide +kernel
theorem dX10_weakest_80 : decode cX10_weakest 80 = .ok (.ireturn, 1) := by decide +kernel
def rm_X10_weakest : Room := { frames := 4, cells := 0, slots := 0, locals := 97 }
def k_X10_weakest_68 (τ : gτ) (n : Nat) (x0 : Nat) (x3 : Int32) (x5 : Int32)  (G : gG) : Option ((Int32 × Int32 × Int32 × gG) ⊕ ((Int32 × gG))) :=
  gLet (x3 + 1) fun v10 =>
  some (.inl (x3, x5, v10, G))
def b_X10_weakest_6 (τ : gτ) (n : Nat) (x0 : Nat) (x1 : Int32) (x2 : Int32) (x3 : Int32) (G : gG) : Option ((Int32 × Int32 × Int32 × gG) ⊕ ((Int32 × gG))) :=
  (gr G 10 10 x0).bind fun a1 =>
  if (gi G 6 5 a1) ≤ x3 then (some (.inr (x1, G)))
  else ((gr G 10 10 x0).bind fun a2 =>
  (gr G 6 1 a2).bind fun a3 =>
  gchk (gIn x3 (gn τ a3)) <| (gq G a3 (Int32.toNatClampNeg x3)).bind fun a4 =>
  if (gi G 5 9 a4) = 0 then ((gr G 10 10 x0).bind fun a5 =>
  (gr G 10 12 x0).bind fun a6 =>
  gBind2 (f_X6_bearing τ n a5 a4 a6 G) fun v7 G8 =>
  gLet (v7 - (gi G8 5 7 a4)) fun v9 =>
  if x1 = (-1 : Int32) then (k_X10_weakest_68 τ n x0 x3 v9  G8)
  else (if x2 ≤ v9 then (gLet (x3 + 1) fun v11 =>
  some (.inl (x1, x2, v11, G8)))
  else (k_X10_weakest_68 τ n x0 x3 v9  G8)))
  else (gLet (x3 + 1) fun v12 =>
  some (.inl (x1, x2, v12, G))))
def l_X10_weakest_6 (τ : gτ) (n : Nat) (x0 : Nat) (x1 : Int32) (x2 : Int32) (x3 : Int32) (G : gG) : Option ((Int32 × gG)) :=
  gIter (fun (q : Int32 × Int32 × Int32 × gG) => b_X10_weakest_6 τ n x0 q.1 q.2.1 q.2.2.1 q.2.2.2) n (x1, x2, x3, G)
def f_X10_weakest (τ : gτ) (n : Nat) (x0 : Nat) (G : gG) : Option (Int32 × gG) :=
  (l_X10_weakest_6 τ n x0 (-1 : Int32) (0 : Int32) (0 : Int32) G).bind fun q => gLet q.1 fun z13 => gLet q.2 fun G14 => 
  some (z13, G14)
set_option maxHeartbeats 4000000 in
set_option maxRecDepth 100000 in
theorem w_X10_weakest_68 {X : gX} {τ : gτ} {p : Program} {l : Launch} {e : Env} {s : State} {m : MethodId} {args : Array Value} {below : List Frame} {meth : Method} {c : Code} (fx : gFx X p s m args meth c cX10_weakest 6 RX10) (n : Nat) (x0 : Nat) (x3 : Int32) (x5 : Int32)  (h0 : gK τ x0 10)  {Q : State → Prop} {K : ((Int32 × Int32 × Int32 × gG) ⊕ ((Int32 × gG))) → Prop} {G : gG} {H : Heap} {locs : List Loc} {ls : Array Slot} (hw : gHw X τ G H locs) (hl : lv_has ls 6 [(0, .ref x0), (3, .int x3), (5, .int x5)]) (hok : gOk (k_X10_weakest_68 τ n x0 x3 x5  G) K) (hc : ∀ (y1 : Int32) (y2 : Int32) (y3 : Int32) (G : gG) (H : Heap) (locs : List Loc) (ls : Array Slot), gHw X τ G H locs → lv_has ls 6 [(0, .ref x0), (1, .int y1), (2, .int y2), (3, .int y3)] → K (.inl (y1, y2, y3, G)) → W p l e rm_X10_weakest s m args below meth c H locs 0 0 Q (F0 m 6 ls [])) (hx0 : ∀ (y1 : Int32) (G : gG) (H : Heap) (locs : List Loc) (ls : Array Slot), gHw X τ G H locs → lv_has ls 6 [(1, .int y1)] → K (.inr (y1, G)) → W p l e rm_X10_weakest s m args below meth c H locs 0 0 Q (F0 m 79 ls [])) : W p l e rm_X10_weakest s m args below meth c H locs 0 0 Q (F0 m 68 ls []) := by
  unfold k_X10_weakest_68 at hok
  refine lv_iload fx.1 fx.2.1 dX10_weakest_68 (lv_at hl 2 rfl) ?_
  refine lv_istore_n (lv' := [(2, .int x5), (0, .ref x0), (3, .int x3), (5, .int x5)]) fx.1 fx.2.1 dX10_weakest_70 rfl hl (by decide) rfl (fun ls hl => ?_)
  refine lv_iload_n fx.1 fx.2.1 dX10_weakest_71 rfl (lv_at hl 2 rfl) ?_
  refine lv_istore_n (lv' := [(1, .int x3), (2, .int x5), (0, .ref x0), (3, .int x3), (5, .int x5)]) fx.1 fx.2.1 dX10_weakest_72 rfl hl (by decide) rfl (fun ls hl => ?_)
  obtain ⟨v10, e_v10, hok⟩ := gOk_let hok
  refine lv_iinc (v := v10) (lv' := [(3, .int v10), (1, .int x3), (2, .int x5), (0, .ref x0), (5, .int x5)]) fx.1 fx.2.1 dX10_weakest_73 hl (k := 3) rfl (by rw [e_v10]; rfl) (by decide) rfl (fun ls hl => ?_)
  refine lv_goto (tgt := 6) fx.1 fx.2.1 dX10_weakest_76 (by decide) ?_
  exact hc x3 x5 v10 G _ _ _  hw (lv_sub hl [3, 1, 2, 0] rfl) (gOk_some hok)
set_option maxHeartbeats 4000000 in
set_option maxRecDepth 100000 in
theorem w_b_X10_weakest_6 {X : gX} {τ : gτ} {p : Program} {l : Launch} {e : Env} {s : State} {m : MethodId} {args : Array Value} {below : List Frame} {meth : Method} {c : Code} (fx : gFx X p s m args meth c cX10_weakest 6 RX10) (n : Nat) (x0 : Nat) (x1 : Int32) (x2 : Int32) (x3 : Int32) (h0 : gK τ x0 10) {Q : State → Prop} {K : ((Int32 × Int32 × Int32 × gG) ⊕ ((Int32 × gG))) → Prop} {G : gG} {H : Heap} {locs : List Loc} {ls : Array Slot} (hw : gHw X τ G H locs) (hl : lv_has ls 6 [(0, .ref x0), (1, .int x1), (2, .int x2), (3, .int x3)]) (hok : gOk (b_X10_weakest_6 τ n x0 x1 x2 x3 G) K) (hc : ∀ (y1 : Int32) (y2 : Int32) (y3 : Int32) (G : gG) (H : Heap) (locs : List Loc) (ls : Array Slot), gHw X τ G H locs → lv_has ls 6 [(0, .ref x0), (1, .int y1), (2, .int y2), (3, .int y3)] → K (.inl (y1, y2, y3, G)) → W p l e rm_X10_weakest s m args below meth c H locs 0 0 Q (F0 m 6 ls [])) (hx0 : ∀ (y1 : Int32) (G : gG) (H : Heap) (locs : List Loc) (ls : Array Slot), gHw X τ G H locs → lv_has ls 6 [(1, .int y1)] → K (.inr (y1, G)) → W p l e rm_X10_weakest s m args below meth c H locs 0 0 Q (F0 m 79 ls [])) : W p l e rm_X10_weakest s m args below meth c H locs 0 0 Q (F0 m 6 ls []) := by
  unfold b_X10_weakest_6 at hok
  refine lv_iload_n fx.1 fx.2.1 dX10_weakest_6 rfl (lv_at hl 3 rfl) ?_
  refine lv_aload_n fx.1 fx.2.1 dX10_weakest_7 rfl (lv_at hl 0 rfl) ?_
  refine g_getr fx hw h0 lf_RX10_70 rfl dX10_weakest_8 hok (fun a1 h_a1 hok => ?_)
  refine g_geti fx hw h_a1 lf_RX10_286 rfl dX10_weakest_11 ?_
  refine g_icmp_ge (tgt := 79) fx dX10_weakest_14 (by decide) hok (fun hok => ?_) (fun hok => ?_)
  · exact hx0 x1 G _ _ _  hw (lv_sub hl [1] rfl) (gOk_some hok)
  · refine lv_aload_n fx.1 fx.2.1 dX10_weakest_17 rfl (lv_at hl 0 rfl) ?_
    refine g_getr fx hw h0 lf_RX10_70 rfl dX10_weakest_18 hok (fun a2 h_a2 hok => ?_)
    refine g_getr fx hw h_a2 lf_RX10_325 rfl dX10_weakest_21 hok (fun a3 h_a3 hok => ?_)
    refine lv_iload_n fx.1 fx.2.1 dX10_weakest_24 rfl (lv_at hl 3 rfl) ?_
    refine g_aald fx hw 15 3 h_a3 (by decide) (by decide) rfl (κ' := 5) rfl dX10_weakest_25 hok (fun a4 h_a4 hok => ?_)
    refine lv_astore (lv' := [(4, .ref a4), (0, .ref x0), (1, .int x1), (2, .int x2), (3, .int x3)]) fx.1 fx.2.1 dX10_weakest_26 hl (by decide) rfl (fun ls hl => ?_)
    refine lv_aload fx.1 fx.2.1 dX10_weakest_28 (lv_at hl 0 rfl) ?_
    refine g_geti fx hw h_a4 lf_RX10_185 rfl dX10_weakest_30 ?_
    refine g_if_ne (tgt := 73) fx dX10_weakest_33 (by decide) hok (fun hok => ?_) (fun hok => ?_)
    · refine lv_aload_n fx.1 fx.2.1 dX10_weakest_36 rfl (lv_at hl 1 rfl) ?_
      refine g_getr fx hw h0 lf_RX10_70 rfl dX10_weakest_37 hok (fun a5 h_a5 hok => ?_)
      refine lv_aload fx.1 fx.2.1 dX10_weakest_40 (lv_at hl 0 rfl) ?_
      refine lv_aload_n fx.1 fx.2.1 dX10_weakest_42 rfl (lv_at hl 1 rfl) ?_
      refine g_getr fx hw h0 lf_RX10_76 rfl dX10_weakest_43 hok (fun a6 h_a6 hok => ?_)
      obtain ⟨v7, G8, hf, hok⟩ := gOk_bind2 hok
      refine g_callV0 (κ := 6) fx hw (c_X6_bearing l X τ n a5 a4 a6 G h_a5 h_a4 h_a6 hf) lv_RX10_191 ⟨rfl, rfl⟩ rfl rfl h_a5 rfl hl.1 rfl ⟨Nat.le_of_ble_eq_true rfl, Nat.le_of_ble_eq_true rfl⟩ (Nat.le_of_ble_eq_true rfl) ⟨Nat.le_of_ble_eq_true rfl, Nat.le_of_ble_eq_true rfl⟩ dX10_weakest_46 (fun H locs hw => ?_)
      refine lv_aload fx.1 fx.2.1 dX10_weakest_49 (lv_at hl 0 rfl) ?_
      refine g_geti fx hw h_a4 lf_RX10_188 rfl dX10_weakest_51 ?_
      refine lv_isub fx.1 fx.2.1 dX10_weakest_54 ?_
      refine g_leti hok (fun v9 hok => ?_)
      refine lv_istore (lv' := [(5, .int v9), (4, .ref a4), (0, .ref x0), (1, .int x1), (2, .int x2), (3, .int x3)]) fx.1 fx.2.1 dX10_weakest_55 hl (by decide) rfl (fun ls hl => ?_)
      refine lv_iload_n fx.1 fx.2.1 dX10_weakest_57 rfl (lv_at hl 3 rfl) ?_
      refine lv_iconst (v := (-1)) fx.1 fx.2.1 dX10_weakest_58 (by decide) ?_
      refine g_icmp_eq (tgt := 68) fx dX10_weakest_59 (by decide) hok (fun hok => ?_) (fun hok => ?_)
      · exact w_X10_weakest_68 fx n x0 x3 v9  h0  hw (lv_sub hl [2, 5, 0] rfl) hok hc hx0
      · refine lv_iload fx.1 fx.2.1 dX10_weakest_62 (lv_at hl 0 rfl) ?_
        refine lv_iload_n fx.1 fx.2.1 dX10_weakest_64 rfl (lv_at hl 4 rfl) ?_
        refine g_icmp_ge (tgt := 73) fx dX10_weakest_65 (by decide) hok (fun hok => ?_) (fun hok => ?_)
        · obtain ⟨v11, e_v11, hok⟩ := gOk_let hok
          refine lv_iinc (v := v11) (lv' := [(3, .int v11), (5, .int v9), (4, .ref a4), (0, .ref x0), (1, .int x1), (2, .int x2)]) fx.1 fx.2.1 dX10_weakest_73 hl (k := 5) rfl (by rw [e_v11]; rfl) (by decide) rfl (fun ls hl => ?_)
          refine lv_goto (tgt := 6) fx.1 fx.2.1 dX10_weakest_76 (by decide) ?_
          exact hc x1 x2 v11 G8 _ _ _  hw (lv_sub hl [3, 4, 5, 0] rfl) (gOk_some hok)
        · exact w_X10_weakest_68 fx n x0 x3 v9  h0  hw (lv_sub hl [2, 5, 0] rfl) hok hc hx0
    · obtain ⟨v12, e_v12, hok⟩ := gOk_let hok
      refine lv_iinc (v := v12) (lv' := [(3, .int v12), (4, .ref a4), (0, .ref x0), (1, .int x1), (2, .int x2)]) fx.1 fx.2.1 dX10_weakest_73 hl (k := 4) rfl (by rw [e_v12]; rfl) (by decide) rfl (fun ls hl => ?_)
      refine lv_goto (tgt := 6) fx.1 fx.2.1 dX10_weakest_76 (by decide) ?_
      exact hc x1 x2 v12 G _ _ _  hw (lv_sub hl [2, 3, 4, 0] rfl) (gOk_some hok)
theorem w_l_X10_weakest_6 {X : gX} {τ : gτ} {p : Program} {l : Launch} {e : Env} {s : State} {m : MethodId} {args : Array Value} {below : List Frame} {meth : Method} {c : Code} (fx : gFx X p s m args meth c cX10_weakest 6 RX10) (n : Nat) (x0 : Nat) (h0 : gK τ x0 10) {Q : State → Prop} {K : ((Int32 × gG)) → Prop} (hx0 : ∀ (y1 : Int32) (G : gG) (H : Heap) (locs : List Loc) (ls : Array Slot), gHw X τ G H locs → lv_has ls 6 [(1, .int y1)] → K (y1, G) → W p l e rm_X10_weakest s m args below meth c H locs 0 0 Q (F0 m 79 ls [])) : ∀ (k : Nat) (x1 : Int32) (x2 : Int32) (x3 : Int32) (G : gG) (H : Heap) (locs : List Loc) (ls : Array Slot), gHw X τ G H locs → lv_has ls 6 [(0, .ref x0), (1, .int x1), (2, .int x2), (3, .int x3)] → gOk (gIter (fun (q : Int32 × Int32 × Int32 × gG) => b_X10_weakest_6 τ n x0 q.1 q.2.1 q.2.2.1 q.2.2.2) k (x1, x2, x3, G)) K → W p l e rm_X10_weakest s m args below meth c H locs 0 0 Q (F0 m 6 ls []) := by
  intro k
  induction k with
  | zero =>
    intro x1 x2 x3 G H locs ls hw hl hok
    exact gOk_iter0 hok
  | succ k hc =>
    intro x1 x2 x3 G H locs ls hw hl hok
    exact w_b_X10_weakest_6 fx n x0 x1 x2 x3 h0 hw hl (gOk_iter hok) hc hx0
set_option maxHeartbeats 4000000 in
set_option maxRecDepth 100000 in
theorem c_X10_weakest (l : Launch) (X : gX) (τ : gτ) (n : Nat) (x0 : Nat) (G : gG) (h0 : gK τ x0 10) {r : Int32} {G' : gG} (h : f_X10_weakest τ n x0 G = some (r, G')) : gM l X τ yX10_weakest cX10_weakest 6 (some .int) rm_X10_weakest [.ref x0] G (some (.int r)) G' := by
  refine g_body (by decide +kernel) (Nat.le_of_ble_eq_true rfl) ?_
  intro p e s m args below meth c ls fx hr hw hl
  have fx : gFx X p s m args meth c cX10_weakest 6 RX10 := fx
  have hl : lv_has ls 6 [(0, .ref x0)] := hl
  have hok : gOk (f_X10_weakest τ n x0 G) (fun q => q = (r, G')) := ⟨_, h, rfl⟩
  unfold f_X10_weakest at hok
  show W p l e rm_X10_weakest s m args below meth c s.heap [] 0 0 (MQ below (gQ X τ (some (.int r)) G') args s 0 0 (gFree X)) _
  refine lv_iconst (v := (-1)) fx.1 fx.2.1 dX10_weakest_0 (by decide) ?_
  refine lv_istore_n (lv' := [(1, .int (-1 : Int32)), (0, .ref x0)]) fx.1 fx.2.1 dX10_weakest_1 rfl hl (by decide) rfl (fun ls hl => ?_)
  refine lv_iconst (v := 0) fx.1 fx.2.1 dX10_weakest_2 (by decide) ?_
  refine lv_istore_n (lv' := [(2, .int (0 : Int32)), (1, .int (-1 : Int32)), (0, .ref x0)]) fx.1 fx.2.1 dX10_weakest_3 rfl hl (by decide) rfl (fun ls hl => ?_)
  refine lv_iconst (v := 0) fx.1 fx.2.1 dX10_weakest_4 (by decide) ?_
  refine lv_istore_n (lv' := [(3, .int (0 : Int32)), (2, .int (0 : Int32)), (1, .int (-1 : Int32)), (0, .ref x0)]) fx.1 fx.2.1 dX10_weakest_5 rfl hl (by decide) rfl (fun ls hl => ?_)
  refine w_l_X10_weakest_6 fx n x0 h0 ?_ n (-1 : Int32) (0 : Int32) (0 : Int32) G _ _ _  hw (lv_sub hl [3, 2, 1, 0] rfl) (gOk_bindK hok)
  intro z13 G14 H locs ls hw hl hok
  have hok : gOk (ρ := Int32 × gG) (some (z13, G14)) _ := hok
  refine lv_iload_n fx.1 fx.2.1 dX10_weakest_79 rfl (lv_at hl 0 rfl) ?_
  cases gOk_some hok
  exact g_iret fx hw hr dX10_weakest_80
theorem dX10_sumBearings_0 : decode cX10_sumBearings 0 = .ok (.iconst 1, 1) := by decide +kernel
theorem dX10_sumBearings_1 : decode cX10_sumBearings 1 = .ok (.istore_n 1, 1) := by decide +kernel
theorem dX10_sumBearings_2 : decode cX10_sumBearings 2 = .ok (.aload_n 0, 1) := by decide +kernel
theorem dX10_sumBearings_3 : decode cX10_sumBearings 3 = .ok (.getfield 64, 3) := by decide +kernel
theorem dX10_sumBearings_6 : decode cX10_sumBearings 6 = .ok (.iconst 0, 1) := by decide +kernel
theorem dX10_sumBearings_7 : decode cX10_sumBearings 7 = .ok (.iconst 0, 1) := by decide +kernel
theorem dX10_sumBearings_8 : decode cX10_sumBearings 8 = .ok (.iastore, 1) := by decide +kernel
theorem dX10_sumBearings_9 : decode cX10_sumBearings 9 = .ok (.iconst 0, 1) := by decide +kernel
theorem dX10_sumBearings_10 : decode cX10_sumBearings 10 = .ok (.istore_n 2, 1) := by decide +kernel
theorem dX10_sumBearings_11 : decode cX10_sumBearings 11 = .ok (.iload_n 2, 1) := by decide +kernel
theorem dX10_sumBearings_12 : decode cX10_sumBearings 12 = .ok (.aload_n 0, 1) := by decide +kernel
theorem dX10_sumBearings_13 : decode cX10_sumBearings 13 = .ok (.getfield 70, 3) := by decide +kernel
theorem dX10_sumBearings_16 : decode cX10_sumBearings 16 = .ok (.getfield 286, 3) := by decide +kernel
theorem dX10_sumBearings_19 : decode cX10_sumBearings 19 = .ok (.if_icmp .ge 67, 3) := by decide +kernel
theorem dX10_sumBearings_22 : decode cX10_sumBearings 22 = .ok (.aload_n 0, 1) := by decide +kernel
theorem dX10_sumBearings_23 : decode cX10_sumBearings 23 = .ok (.getfield 70, 3) := by decide +kernel
theorem dX10_sumBearings_26 : decode cX10_sumBearings 26 = .ok (.aload_n 0, 1) := by decide +kernel
theorem dX10_sumBearings_27 : decode cX10_sumBearings 27 = .ok (.getfield 70, 3) := by decide +kernel
theorem dX10_sumBearings_30 : decode cX10_sumBearings 30 = .ok (.getfield 325, 3) := by decide +kernel
theorem dX10_sumBearings_33 : decode cX10_sumBearings 33 = .ok (.iload_n 2, 1) := by decide +kernel
theorem dX10_sumBearings_34 : decode cX10_sumBearings 34 = .ok (.aaload, 1) := by decide +kernel
theorem dX10_sumBearings_35 : decode cX10_sumBearings 35 = .ok (.aload_n 0, 1) := by decide +kernel
theorem dX10_sumBearings_36 : decode cX10_sumBearings 36 = .ok (.getfield 76, 3) := by decide +kernel
theorem dX10_sumBearings_39 : decode cX10_sumBearings 39 = .ok (.invokevirtual 191, 3) := by decide +kernel
theorem dX10_sumBearings_42 : decode cX10_sumBearings 42 = .ok (.istore_n 3, 1) := by decide +kernel
theorem dX10_sumBearings_43 : decode cX10_sumBearings 43 = .ok (.iconst 0, 1) := by decide +kernel
theorem dX10_sumBearings_44 : decode cX10_sumBearings 44 = .ok (.istore 4, 2) := by decide +kernel
theorem dX10_sumBearings_46 : decode cX10_sumBearings 46 = .ok (.iload 4, 2) := by decide +kernel
theorem dX10_sumBearings_48 : decode cX10_sumBearings 48 = .ok (.iload_n 1, 1) := by decide +kernel
theorem dX10_sumBearings_49 : decode cX10_sumBearings 49 = .ok (.if_icmp .ge 27, 3) := by decide +kernel
theorem dX10_sumBearings_52 : decode cX10_sumBearings 52 = .ok (.aload_n 0, 1) := by decide +kernel
theorem dX10_sumBearings_53 : decode cX10_sumBearings 53 = .ok (.getfield 64, 3) := by decide +kernel
theorem dX10_sumBearings_56 : decode cX10_sumBearings 56 = .ok (.iload_n 1, 1) := by decide +kernel
theorem dX10_sumBearings_57 : decode cX10_sumBearings 57 = .ok (.iload 4, 2) := by decide +kernel
theorem dX10_sumBearings_59 : decode cX10_sumBearings 59 = .ok (.iadd, 1) := by decide +kernel
theorem dX10_sumBearings_60 : decode cX10_sumBearings 60 = .ok (.aload_n 0, 1) := by decide +kernel
theorem dX10_sumBearings_61 : decode cX10_sumBearings 61 = .ok (.getfield 64, 3) := by decide +kernel
theorem dX10_sumBearings_64 : decode cX10_sumBearings 64 = .ok (.iload 4, 2) := by decide +kernel
theorem dX10_sumBearings_66 : decode cX10_sumBearings 66 = .ok (.iaload, 1) := by decide +kernel
theorem dX10_sumBearings_67 : decode cX10_sumBearings 67 = .ok (.iload_n 3, 1) := by decide +kernel
theorem dX10_sumBearings_68 : decode cX10_sumBearings 68 = .ok (.iadd, 1) := by decide +kernel
theorem dX10_sumBearings_69 : decode cX10_sumBearings 69 = .ok (.iastore, 1) := by decide +kernel
theorem dX10_sumBearings_70 : decode cX10_sumBearings 70 = .ok (.iinc 4 1, 3) := by decide +kernel
theorem dX10_sumBearings_73 : decode cX10_sumBearings 73 = .ok (.goto (-27), 3) := by decide +kernel
theorem dX10_sumBearings_76 : decode cX10_sumBearings 76 = .ok (.iload_n 1, 1) := by decide +kernel
theorem dX10_sumBearings_77 : decode cX10_sumBearings 77 = .ok (.iconst 2, 1) := by decide +kernel
theorem dX10_sumBearings_78 : decode cX10_sumBearings 78 = .ok (.imul, 1) := by decide +kernel
theorem dX10_sumBearings_79 : decode cX10_sumBearings 79 = .ok (.istore_n 1, 1) := by decide +kernel
theorem dX10_sumBearings_80 : decode cX10_sumBearings 80 = .ok (.iinc 2 1, 3) := by decide +kernel
theorem dX10_sumBearings_83 : decode cX10_sumBearings 83 = .ok (.goto (-72), 3) := by decide +kernel
theorem dX10_sumBearings_86 : decode cX10_sumBearings 86 = .ok (.iload_n 1, 1) := by decide +kernel
theorem dX10_sumBearings_87 : decode cX10_sumBearings 87 = .ok (.ireturn, 1) := by decide +kernel
def rm_X10_sumBearings : Room := { frames := 4, cells := 0, slots := 0, locals := 97 }
def b_X10_sumBearings_46 (τ : gτ) (n : Nat) (x0 : Nat) (x1 : Int32) (x2 : Int32) (x3 : Int32) (x4 : Int32) (G : gG) : Option ((Int32 × gG) ⊕ ((gG))) :=
  if x1 ≤ x4 then (some (.inr G))
  else ((gr G 10 8 x0).bind fun a11 =>
  (gr G 10 8 x0).bind fun a12 =>
  gchk (gIn x4 (gn τ a12)) <|
  gchk (gIn (x1 + x4) (gn τ a11)) <| gLet (gse G a11 (Int32.toNatClampNeg (x1 + x4)) ((ge G a12 (Int32.toNatClampNeg x4)) + x3)) fun G13 =>
  gLet (x4 + 1) fun v14 =>
  some (.inl (v14, G13)))
def l_X10_sumBearings_46 (τ : gτ) (n : Nat) (x0 : Nat) (x1 : Int32) (x2 : Int32) (x3 : Int32) (x4 : Int32) (G : gG) : Option ((gG)) :=
  gIter (fun (q : Int32 × gG) => b_X10_sumBearings_46 τ n x0 x1 x2 x3 q.1 q.2) n (x4, G)
def k_X10_sumBearings_76 (τ : gτ) (n : Nat) (x0 : Nat) (x1 : Int32) (x2 : Int32)  (G : gG) : Option ((Int32 × Int32 × gG) ⊕ ((Int32 × gG))) :=
  gLet (x1 * (2 : Int32)) fun v16 =>
  gLet (x2 + 1) fun v17 =>
  some (.inl (v16, v17, G))
def b_X10_sumBearings_11 (τ : gτ) (n : Nat) (x0 : Nat) (x1 : Int32) (x2 : Int32) (G : gG) : Option ((Int32 × Int32 × gG) ⊕ ((Int32 × gG))) :=
  (gr G 10 10 x0).bind fun a3 =>
  if (gi G 6 5 a3) ≤ x2 then (some (.inr (x1, G)))
  else ((gr G 10 10 x0).bind fun a4 =>
  (gr G 10 10 x0).bind fun a5 =>
  (gr G 6 1 a5).bind fun a6 =>
  gchk (gIn x2 (gn τ a6)) <| (gq G a6 (Int32.toNatClampNeg x2)).bind fun a7 =>
  (gr G 10 12 x0).bind fun a8 =>
  gBind2 (f_X6_bearing τ n a4 a7 a8 G) fun v9 G10 =>
  (l_X10_sumBearings_46 τ n x0 x1 x2 v9 (0 : Int32) G10).bind fun q => gLet q fun G15 => 
  k_X10_sumBearings_76 τ n x0 x1 x2  G15)
def l_X10_sumBearings_11 (τ : gτ) (n : Nat) (x0 : Nat) (x1 : Int32) (x2 : Int32) (G : gG) : Option ((Int32 × gG)) :=
  gIter (fun (q : Int32 × Int32 × gG) => b_X10_sumBearings_11 τ n x0 q.1 q.2.1 q.2.2) n (x1, x2, G)
def f_X10_sumBearings (τ : gτ) (n : Nat) (x0 : Nat) (G : gG) : Option (Int32 × gG) :=
  (gr G 10 8 x0).bind fun a1 =>
  gchk (gIn (0 : Int32) (gn τ a1)) <| gLet (gse G a1 (Int32.toNatClampNeg (0 : Int32)) (0 : Int32)) fun G2 =>
  (l_X10_sumBearings_11 τ n x0 (1 : Int32) (0 : Int32) G2).bind fun q => gLet q.1 fun z18 => gLet q.2 fun G19 => 
  some (z18, G19)
set_option maxHeartbeats 4000000 in
set_option maxRecDepth 100000 in
theorem w_b_X10_sumBearings_46 {X : gX} {τ : gτ} {p : Program} {l : Launch} {e : Env} {s : State} {m : MethodId} {args : Array Value} {below : List Frame} {meth : Method} {c : Code} (fx : gFx X p s m args meth c cX10_sumBearings 5 RX10) (n : Nat) (x0 : Nat) (x1 : Int32) (x2 : Int32) (x3 : Int32) (x4 : Int32) (h0 : gK τ x0 10) {Q : State → Prop} {K : ((Int32 × gG) ⊕ ((gG))) → Prop} {G : gG} {H : Heap} {locs : List Loc} {ls : Array Slot} (hw : gHw X τ G H locs) (hl : lv_has ls 5 [(0, .ref x0), (1, .int x1), (2, .int x2), (3, .int x3), (4, .int x4)]) (hok : gOk (b_X10_sumBearings_46 τ n x0 x1 x2 x3 x4 G) K) (hc : ∀ (y4 : Int32) (G : gG) (H : Heap) (locs : List Loc) (ls : Array Slot), gHw X τ G H locs → lv_has ls 5 [(0, .ref x0), (1, .int x1), (2, .int x2), (3, .int x3), (4, .int y4)] → K (.inl (y4, G)) → W p l e rm_X10_sumBearings s m args below meth c H locs 0 0 Q (F0 m 46 ls [])) (hx0 : ∀ (G : gG) (H : Heap) (locs : List Loc) (ls : Array Slot), gHw X τ G H locs → lv_has ls 5 [(0, .ref x0), (1, .int x1), (2, .int x2)] → K (.inr G) → W p l e rm_X10_sumBearings s m args below meth c H locs 0 0 Q (F0 m 76 ls [])) : W p l e rm_X10_sumBearings s m args below meth c H locs 0 0 Q (F0 m 46 ls []) := by
  unfold b_X10_sumBearings_46 at hok
  refine lv_iload fx.1 fx.2.1 dX10_sumBearings_46 (lv_at hl 4 rfl) ?_
  refine lv_iload_n fx.1 fx.2.1 dX10_sumBearings_48 rfl (lv_at hl 1 rfl) ?_
  refine g_icmp_ge (tgt := 76) fx dX10_sumBearings_49 (by decide) hok (fun hok => ?_) (fun hok => ?_)
  · exact hx0  G _ _ _  hw (lv_sub hl [0, 1, 2] rfl) (gOk_some hok)
  · refine lv_aload_n fx.1 fx.2.1 dX10_sumBearings_52 rfl (lv_at hl 0 rfl) ?_
    refine g_getr fx hw h0 lf_RX10_64 rfl dX10_sumBearings_53 hok (fun a11 h_a11 hok => ?_)
    refine lv_iload_n fx.1 fx.2.1 dX10_sumBearings_56 rfl (lv_at hl 1 rfl) ?_
    refine lv_iload fx.1 fx.2.1 dX10_sumBearings_57 (lv_at hl 4 rfl) ?_
    refine lv_iadd fx.1 fx.2.1 dX10_sumBearings_59 ?_
    refine lv_aload_n fx.1 fx.2.1 dX10_sumBearings_60 rfl (lv_at hl 0 rfl) ?_
    refine g_getr fx hw h0 lf_RX10_64 rfl dX10_sumBearings_61 hok (fun a12 h_a12 hok => ?_)
    refine lv_iload fx.1 fx.2.1 dX10_sumBearings_64 (lv_at hl 4 rfl) ?_
    refine g_iald fx hw h_a12 dX10_sumBearings_66 hok (fun hok => ?_)
    refine lv_iload_n fx.1 fx.2.1 dX10_sumBearings_67 rfl (lv_at hl 3 rfl) ?_
    refine lv_iadd fx.1 fx.2.1 dX10_sumBearings_68 ?_
    refine g_iast fx hw h_a11 dX10_sumBearings_69 hok (fun G13 H locs hw hok => ?_)
    obtain ⟨v14, e_v14, hok⟩ := gOk_let hok
    refine lv_iinc (v := v14) (lv' := [(4, .int v14), (0, .ref x0), (1, .int x1), (2, .int x2), (3, .int x3)]) fx.1 fx.2.1 dX10_sumBearings_70 hl (k := 4) rfl (by rw [e_v14]; rfl) (by decide) rfl (fun ls hl => ?_)
    refine lv_goto (tgt := 46) fx.1 fx.2.1 dX10_sumBearings_73 (by decide) ?_
    exact hc v14 G13 _ _ _  hw (lv_sub hl [1, 2, 3, 4, 0] rfl) (gOk_some hok)
theorem w_l_X10_sumBearings_46 {X : gX} {τ : gτ} {p : Program} {l : Launch} {e : Env} {s : State} {m : MethodId} {args : Array Value} {below : List Frame} {meth : Method} {c : Code} (fx : gFx X p s m args meth c cX10_sumBearings 5 RX10) (n : Nat) (x0 : Nat) (x1 : Int32) (x2 : Int32) (x3 : Int32) (h0 : gK τ x0 10) {Q : State → Prop} {K : ((gG)) → Prop} (hx0 : ∀ (G : gG) (H : Heap) (locs : List Loc) (ls : Array Slot), gHw X τ G H locs → lv_has ls 5 [(0, .ref x0), (1, .int x1), (2, .int x2)] → K G → W p l e rm_X10_sumBearings s m args below meth c H locs 0 0 Q (F0 m 76 ls [])) : ∀ (k : Nat) (x4 : Int32) (G : gG) (H : Heap) (locs : List Loc) (ls : Array Slot), gHw X τ G H locs → lv_has ls 5 [(0, .ref x0), (1, .int x1), (2, .int x2), (3, .int x3), (4, .int x4)] → gOk (gIter (fun (q : Int32 × gG) => b_X10_sumBearings_46 τ n x0 x1 x2 x3 q.1 q.2) k (x4, G)) K → W p l e rm_X10_sumBearings s m args below meth c H locs 0 0 Q (F0 m 46 ls []) := by
  intro k
  induction k with
  | zero =>
    intro x4 G H locs ls hw hl hok
    exact gOk_iter0 hok
  | succ k hc =>
    intro x4 G H locs ls hw hl hok
    exact w_b_X10_sumBearings_46 fx n x0 x1 x2 x3 x4 h0 hw hl (gOk_iter hok) hc hx0
set_option maxHeartbeats 4000000 in
set_option maxRecDepth 100000 in
theorem w_X10_sumBearings_76 {X : gX} {τ : gτ} {p : Program} {l : Launch} {e : Env} {s : State} {m : MethodId} {args : Array Value} {below : List Frame} {meth : Method} {c : Code} (fx : gFx X p s m args meth c cX10_sumBearings 5 RX10) (n : Nat) (x0 : Nat) (x1 : Int32) (x2 : Int32)  (h0 : gK τ x0 10)  {Q : State → Prop} {K : ((Int32 × Int32 × gG) ⊕ ((Int32 × gG))) → Prop} {G : gG} {H : Heap} {locs : List Loc} {ls : Array Slot} (hw : gHw X τ G H locs) (hl : lv_has ls 5 [(0, .ref x0), (1, .int x1), (2, .int x2)]) (hok : gOk (k_X10_sumBearings_76 τ n x0 x1 x2  G) K) (hc : ∀ (y1 : Int32) (y2 : Int32) (G : gG) (H : Heap) (locs : List Loc) (ls : Array Slot), gHw X τ G H locs → lv_has ls 5 [(0, .ref x0), (1, .int y1), (2, .int y2)] → K (.inl (y1, y2, G)) → W p l e rm_X10_sumBearings s m args below meth c H locs 0 0 Q (F0 m 11 ls [])) (hx0 : ∀ (y1 : Int32) (G : gG) (H : Heap) (locs : List Loc) (ls : Array Slot), gHw X τ G H locs → lv_has ls 5 [(1, .int y1)] → K (.inr (y1, G)) → W p l e rm_X10_sumBearings s m args below meth c H locs 0 0 Q (F0 m 86 ls [])) : W p l e rm_X10_sumBearings s m args below meth c H locs 0 0 Q (F0 m 76 ls []) := by
  unfold k_X10_sumBearings_76 at hok
  refine lv_iload_n fx.1 fx.2.1 dX10_sumBearings_76 rfl (lv_at hl 1 rfl) ?_
  refine lv_iconst (v := 2) fx.1 fx.2.1 dX10_sumBearings_77 (by decide) ?_
  refine lv_imul fx.1 fx.2.1 dX10_sumBearings_78 ?_
  refine g_leti hok (fun v16 hok => ?_)
  refine lv_istore_n (lv' := [(1, .int v16), (0, .ref x0), (2, .int x2)]) fx.1 fx.2.1 dX10_sumBearings_79 rfl hl (by decide) rfl (fun ls hl => ?_)
  obtain ⟨v17, e_v17, hok⟩ := gOk_let hok
  refine lv_iinc (v := v17) (lv' := [(2, .int v17), (1, .int v16), (0, .ref x0)]) fx.1 fx.2.1 dX10_sumBearings_80 hl (k := 2) rfl (by rw [e_v17]; rfl) (by decide) rfl (fun ls hl => ?_)
  refine lv_goto (tgt := 11) fx.1 fx.2.1 dX10_sumBearings_83 (by decide) ?_
  exact hc v16 v17 G _ _ _  hw (lv_sub hl [2, 1, 0] rfl) (gOk_some hok)
set_option maxHeartbeats 4000000 in
set_option maxRecDepth 100000 in
theorem w_b_X10_sumBearings_11 {X : gX} {τ : gτ} {p : Program} {l : Launch} {e : Env} {s : State} {m : MethodId} {args : Array Value} {below : List Frame} {meth : Method} {c : Code} (fx : gFx X p s m args meth c cX10_sumBearings 5 RX10) (n : Nat) (x0 : Nat) (x1 : Int32) (x2 : Int32) (h0 : gK τ x0 10) {Q : State → Prop} {K : ((Int32 × Int32 × gG) ⊕ ((Int32 × gG))) → Prop} {G : gG} {H : Heap} {locs : List Loc} {ls : Array Slot} (hw : gHw X τ G H locs) (hl : lv_has ls 5 [(0, .ref x0), (1, .int x1), (2, .int x2)]) (hok : gOk (b_X10_sumBearings_11 τ n x0 x1 x2 G) K) (hc : ∀ (y1 : Int32) (y2 : Int32) (G : gG) (H : Heap) (locs : List Loc) (ls : Array Slot), gHw X τ G H locs → lv_has ls 5 [(0, .ref x0), (1, .int y1), (2, .int y2)] → K (.inl (y1, y2, G)) → W p l e rm_X10_sumBearings s m args below meth c H locs 0 0 Q (F0 m 11 ls [])) (hx0 : ∀ (y1 : Int32) (G : gG) (H : Heap) (locs : List Loc) (ls : Array Slot), gHw X τ G H locs → lv_has ls 5 [(1, .int y1)] → K (.inr (y1, G)) → W p l e rm_X10_sumBearings s m args below meth c H locs 0 0 Q (F0 m 86 ls [])) : W p l e rm_X10_sumBearings s m args below meth c H locs 0 0 Q (F0 m 11 ls []) := by
  unfold b_X10_sumBearings_11 at hok
  refine lv_iload_n fx.1 fx.2.1 dX10_sumBearings_11 rfl (lv_at hl 2 rfl) ?_
  refine lv_aload_n fx.1 fx.2.1 dX10_sumBearings_12 rfl (lv_at hl 0 rfl) ?_
  refine g_getr fx hw h0 lf_RX10_70 rfl dX10_sumBearings_13 hok (fun a3 h_a3 hok => ?_)
  refine g_geti fx hw h_a3 lf_RX10_286 rfl dX10_sumBearings_16 ?_
  refine g_icmp_ge (tgt := 86) fx dX10_sumBearings_19 (by decide) hok (fun hok => ?_) (fun hok => ?_)
  · exact hx0 x1 G _ _ _  hw (lv_sub hl [1] rfl) (gOk_some hok)
  · refine lv_aload_n fx.1 fx.2.1 dX10_sumBearings_22 rfl (lv_at hl 0 rfl) ?_
    refine g_getr fx hw h0 lf_RX10_70 rfl dX10_sumBearings_23 hok (fun a4 h_a4 hok => ?_)
    refine lv_aload_n fx.1 fx.2.1 dX10_sumBearings_26 rfl (lv_at hl 0 rfl) ?_
    refine g_getr fx hw h0 lf_RX10_70 rfl dX10_sumBearings_27 hok (fun a5 h_a5 hok => ?_)
    refine g_getr fx hw h_a5 lf_RX10_325 rfl dX10_sumBearings_30 hok (fun a6 h_a6 hok => ?_)
    refine lv_iload_n fx.1 fx.2.1 dX10_sumBearings_33 rfl (lv_at hl 2 rfl) ?_
    refine g_aald fx hw 15 3 h_a6 (by decide) (by decide) rfl (κ' := 5) rfl dX10_sumBearings_34 hok (fun a7 h_a7 hok => ?_)
    refine lv_aload_n fx.1 fx.2.1 dX10_sumBearings_35 rfl (lv_at hl 0 rfl) ?_
    refine g_getr fx hw h0 lf_RX10_76 rfl dX10_sumBearings_36 hok (fun a8 h_a8 hok => ?_)
    obtain ⟨v9, G10, hf, hok⟩ := gOk_bind2 hok
    refine g_callV0 (κ := 6) fx hw (c_X6_bearing l X τ n a4 a7 a8 G h_a4 h_a7 h_a8 hf) lv_RX10_191 ⟨rfl, rfl⟩ rfl rfl h_a4 rfl hl.1 rfl ⟨Nat.le_of_ble_eq_true rfl, Nat.le_of_ble_eq_true rfl⟩ (Nat.le_of_ble_eq_true rfl) ⟨Nat.le_of_ble_eq_true rfl, Nat.le_of_ble_eq_true rfl⟩ dX10_sumBearings_39 (fun H locs hw => ?_)
    refine lv_istore_n (lv' := [(3, .int v9), (0, .ref x0), (1, .int x1), (2, .int x2)]) fx.1 fx.2.1 dX10_sumBearings_42 rfl hl (by decide) rfl (fun ls hl => ?_)
    refine lv_iconst (v := 0) fx.1 fx.2.1 dX10_sumBearings_43 (by decide) ?_
    refine lv_istore (lv' := [(4, .int (0 : Int32)), (3, .int v9), (0, .ref x0), (1, .int x1), (2, .int x2)]) fx.1 fx.2.1 dX10_sumBearings_44 hl (by decide) rfl (fun ls hl => ?_)
    refine w_l_X10_sumBearings_46 fx n x0 x1 x2 v9 h0 ?_ n (0 : Int32) G10 _ _ _  hw (lv_sub hl [2, 3, 4, 1, 0] rfl) (gOk_bindK hok)
    intro G15 H locs ls hw hl hok
    have hok : gOk (ρ := (Int32 × Int32 × gG) ⊕ ((Int32 × gG))) (k_X10_sumBearings_76 τ n x0 x1 x2  G15) _ := hok
    exact w_X10_sumBearings_76 fx n x0 x1 x2  h0  hw (lv_sub hl [0, 1, 2] rfl) hok hc hx0
theorem w_l_X10_sumBearings_11 {X : gX} {τ : gτ} {p : Program} {l : Launch} {e : Env} {s : State} {m : MethodId} {args : Array Value} {below : List Frame} {meth : Method} {c : Code} (fx : gFx X p s m args meth c cX10_sumBearings 5 RX10) (n : Nat) (x0 : Nat) (h0 : gK τ x0 10) {Q : State → Prop} {K : ((Int32 × gG)) → Prop} (hx0 : ∀ (y1 : Int32) (G : gG) (H : Heap) (locs : List Loc) (ls : Array Slot), gHw X τ G H locs → lv_has ls 5 [(1, .int y1)] → K (y1, G) → W p l e rm_X10_sumBearings s m args below meth c H locs 0 0 Q (F0 m 86 ls [])) : ∀ (k : Nat) (x1 : Int32) (x2 : Int32) (G : gG) (H : Heap) (locs : List Loc) (ls : Array Slot), gHw X τ G H locs → lv_has ls 5 [(0, .ref x0), (1, .int x1), (2, .int x2)] → gOk (gIter (fun (q : Int32 × Int32 × gG) => b_X10_sumBearings_11 τ n x0 q.1 q.2.1 q.2.2) k (x1, x2, G)) K → W p l e rm_X10_sumBearings s m args below meth c H locs 0 0 Q (F0 m 11 ls []) := by
  intro k
  induction k with
  | zero =>
    intro x1 x2 G H locs ls hw hl hok
    exact gOk_iter0 hok
  | succ k hc =>
    intro x1 x2 G H locs ls hw hl hok
    exact w_b_X10_sumBearings_11 fx n x0 x1 x2 h0 hw hl (gOk_iter hok) hc hx0
set_option maxHeartbeats 4000000 in
set_option maxRecDepth 100000 in
theorem c_X10_sumBearings (l : Launch) (X : gX) (τ : gτ) (n : Nat) (x0 : Nat) (G : gG) (h0 : gK τ x0 10) {r : Int32} {G' : gG} (h : f_X10_sumBearings τ n x0 G = some (r, G')) : gM l X τ yX10_sumBearings cX10_sumBearings 5 (some .int) rm_X10_sumBearings [.ref x0] G (some (.int r)) G' := by
  refine g_body (by decide +kernel) (Nat.le_of_ble_eq_true rfl) ?_
  intro p e s m args below meth c ls fx hr hw hl
  have fx : gFx X p s m args meth c cX10_sumBearings 5 RX10 := fx
  have hl : lv_has ls 5 [(0, .ref x0)] := hl
  have hok : gOk (f_X10_sumBearings τ n x0 G) (fun q => q = (r, G')) := ⟨_, h, rfl⟩
  unfold f_X10_sumBearings at hok
  show W p l e rm_X10_sumBearings s m args below meth c s.heap [] 0 0 (MQ below (gQ X τ (some (.int r)) G') args s 0 0 (gFree X)) _
  refine lv_iconst (v := 1) fx.1 fx.2.1 dX10_sumBearings_0 (by decide) ?_
  refine lv_istore_n (lv' := [(1, .int (1 : Int32)), (0, .ref x0)]) fx.1 fx.2.1 dX10_sumBearings_1 rfl hl (by decide) rfl (fun ls hl => ?_)
  refine lv_aload_n fx.1 fx.2.1 dX10_sumBearings_2 rfl (lv_at hl 1 rfl) ?_
  refine g_getr fx hw h0 lf_RX10_64 rfl dX10_sumBearings_3 hok (fun a1 h_a1 hok => ?_)
  refine lv_iconst (v := 0) fx.1 fx.2.1 dX10_sumBearings_6 (by decide) ?_
  refine lv_iconst (v := 0) fx.1 fx.2.1 dX10_sumBearings_7 (by decide) ?_
  refine g_iast fx hw h_a1 dX10_sumBearings_8 hok (fun G2 H locs hw hok => ?_)
  refine lv_iconst (v := 0) fx.1 fx.2.1 dX10_sumBearings_9 (by decide) ?_
  refine lv_istore_n (lv' := [(2, .int (0 : Int32)), (1, .int (1 : Int32)), (0, .ref x0)]) fx.1 fx.2.1 dX10_sumBearings_10 rfl hl (by decide) rfl (fun ls hl => ?_)
  refine w_l_X10_sumBearings_11 fx n x0 h0 ?_ n (1 : Int32) (0 : Int32) G2 _ _ _  hw (lv_sub hl [2, 1, 0] rfl) (gOk_bindK hok)
  intro z18 G19 H locs ls hw hl hok
  have hok : gOk (ρ := Int32 × gG) (some (z18, G19)) _ := hok
  refine lv_iload_n fx.1 fx.2.1 dX10_sumBearings_86 rfl (lv_at hl 0 rfl) ?_
  cases gOk_some hok
  exact g_iret fx hw hr dX10_sumBearings_87
theorem dX10_fewest_0 : decode cX10_fewest 0 = .ok (.aload_n 0, 1) := by decide +kernel
theorem dX10_fewest_1 : decode cX10_fewest 1 = .ok (.getfield 70, 3) := by decide +kernel
theorem dX10_fewest_4 : decode cX10_fewest 4 = .ok (.invokevirtual 388, 3) := by decide +kernel
theorem dX10_fewest_7 : decode cX10_fewest 7 = .ok (.istore_n 1, 1) := by decide +kernel
theorem dX10_fewest_8 : decode cX10_fewest 8 = .ok (.aload_n 0, 1) := by decide +kernel
theorem dX10_fewest_9 : decode cX10_fewest 9 = .ok (.getfield 70, 3) := by decide +kernel
theorem dX10_fewest_12 : decode cX10_fewest 12 = .ok (.invokevirtual 391, 3) := by decide +kernel
theorem dX10_fewest_15 : decode cX10_fewest 15 = .ok (.istore_n 2, 1) := by decide +kernel
theorem dX10_fewest_16 : decode cX10_fewest 16 = .ok (.aload_n 0, 1) := by decide +kernel
theorem dX10_fewest_17 : decode cX10_fewest 17 = .ok (.invokevirtual 394, 3) := by decide +kernel
theorem dX10_fewest_20 : decode cX10_fewest 20 = .ok (.istore_n 3, 1) := by decide +kernel
theorem dX10_fewest_21 : decode cX10_fewest 21 = .ok (.iconst (-1), 1) := by decide +kernel
theorem dX10_fewest_22 : decode cX10_fewest 22 = .ok (.istore 4, 2) := by decide +kernel
theorem dX10_fewest_24 : decode cX10_fewest 24 = .ok (.iconst 0, 1) := by decide +kernel
theorem dX10_fewest_25 : decode cX10_fewest 25 = .ok (.istore 5, 2) := by decide +kernel
theorem dX10_fewest_27 : decode cX10_fewest 27 = .ok (.iload 5, 2) := by decide +kernel
theorem dX10_fewest_29 : decode cX10_fewest 29 = .ok (.iload_n 3, 1) := by decide +kernel
theorem dX10_fewest_30 : decode cX10_fewest 30 = .ok (.if_icmp .ge 62, 3) := by decide +kernel
theorem dX10_fewest_33 : decode cX10_fewest 33 = .ok (.iload 5, 2) := by decide +kernel
theorem dX10_fewest_35 : decode cX10_fewest 35 = .ok (.iload_n 2, 1) := by decide +kernel
theorem dX10_fewest_36 : decode cX10_fewest 36 = .ok (.iand, 1) := by decide +kernel
theorem dX10_fewest_37 : decode cX10_fewest 37 = .ok (.ifCond .ne 18, 3) := by decide +kernel
theorem dX10_fewest_40 : decode cX10_fewest 40 = .ok (.aload_n 0, 1) := by decide +kernel
theorem dX10_fewest_41 : decode cX10_fewest 41 = .ok (.getfield 64, 3) := by decide +kernel
theorem dX10_fewest_44 : decode cX10_fewest 44 = .ok (.iload 5, 2) := by decide +kernel
theorem dX10_fewest_46 : decode cX10_fewest 46 = .ok (.iaload, 1) := by decide +kernel
theorem dX10_fewest_47 : decode cX10_fewest 47 = .ok (.iload_n 1, 1) := by decide +kernel
theorem dX10_fewest_48 : decode cX10_fewest 48 = .ok (.if_icmp .lt 7, 3) := by decide +kernel
theorem dX10_fewest_51 : decode cX10_fewest 51 = .ok (.iconst 1, 1) := by decide +kernel
theorem dX10_fewest_52 : decode cX10_fewest 52 = .ok (.goto 4, 3) := by decide +kernel
theorem dX10_fewest_55 : decode cX10_fewest 55 = .ok (.iconst 0, 1) := by decide +kernel
theorem dX10_fewest_56 : decode cX10_fewest 56 = .ok (.istore 6, 2) := by decide +kernel
theorem dX10_fewest_58 : decode cX10_fewest 58 = .ok (.iload 6, 2) := by decide +kernel
theorem dX10_fewest_60 : decode cX10_fewest 60 = .ok (.ifCond .eq 26, 3) := by decide +kernel
theorem dX10_fewest_63 : decode cX10_fewest 63 = .ok (.iload 4, 2) := by decide +kernel
theorem dX10_fewest_65 : decode cX10_fewest 65 = .ok (.iconst (-1), 1) := by decide +kernel
theorem dX10_fewest_66 : decode cX10_fewest 66 = .ok (.if_icmp .eq 16, 3) := by decide +kernel
theorem dX10_fewest_69 : decode cX10_fewest 69 = .ok (.iload 5, 2) := by decide +kernel
theorem dX10_fewest_71 : decode cX10_fewest 71 = .ok (.invokestatic 350, 3) := by decide +kernel
theorem dX10_fewest_74 : decode cX10_fewest 74 = .ok (.iload 4, 2) := by decide +kernel
theorem dX10_fewest_76 : decode cX10_fewest 76 = .ok (.invokestatic 350, 3) := by decide +kernel
theorem dX10_fewest_79 : decode cX10_fewest 79 = .ok (.if_icmp .ge 7, 3) := by decide +kernel
theorem dX10_fewest_82 : decode cX10_fewest 82 = .ok (.iload 5, 2) := by decide +kernel
theorem dX10_fewest_84 : decode cX10_fewest 84 = .ok (.istore 4, 2) := by decide +kernel
theorem dX10_fewest_86 : decode cX10_fewest 86 = .ok (.iinc 5 1, 3) := by decide +kernel
theorem dX10_fewest_89 : decode cX10_fewest 89 = .ok (.goto (-62), 3) := by decide +kernel
theorem dX10_fewest_92 : decode cX10_fewest 92 = .ok (.iload 4, 2) := by decide +kernel
theorem dX10_fewest_94 : decode cX10_fewest 94 = .ok (.ireturn, 1) := by decide +kernel
theorem lv_RX10_388 : gLv RX10 388 RX6 yX6_hangingLoads cX6_hangingLoads 3 (some .int) 0 := gLv_of (wA_t (wt3 (List.mem_of_getElem? (i := 63) (by decide +kernel))) (by decide +kernel)) (wA_t (wt3 (List.mem_of_getElem? (i := 64) (by decide +kernel))) (by decide +kernel)) (wA_t (wt3 (List.mem_of_getElem? (i := 65) (by decide +kernel))) (by decide +kernel)) (wA_t (wt1 (List.mem_of_getElem? (i := 6) (by decide +kernel))) (by decide +kernel)) (wA_t (wt3 (List.mem_of_getElem? (i := 66) (by decide +kernel))) (by decide +kernel)) ⟨rfl, by decide +kernel, by decide +kernel, by decide +kernel⟩
theorem lv_RX10_391 : gLv RX10 391 RX6 yX6_brokenRopes cX6_brokenRopes 3 (some .int) 0 := gLv_of (wA_t (wt3 (List.mem_of_getElem? (i := 67) (by decide +kernel))) (by decide +kernel)) (wA_t (wt3 (List.mem_of_getElem? (i := 68) (by decide +kernel))) (by decide +kernel)) (wA_t (wt3 (List.mem_of_getElem? (i := 69) (by decide +kernel))) (by decide +kernel)) (wA_t (wt1 (List.mem_of_getElem? (i := 6) (by decide +kernel))) (by decide +kernel)) (wA_t (wt3 (List.mem_of_getElem? (i := 70) (by decide +kernel))) (by decide +kernel)) ⟨rfl, by decide +kernel, by decide +kernel, by decide +kernel⟩
theorem lv_RX10_394 : gLv RX10 394 RX10 yX10_sumBearings cX10_sumBearings 5 (some .int) 0 := gLv_of (wA_t (wt3 (List.mem_of_getElem? (i := 71) (by decide +kernel))) (by decide +kernel)) (wA_t (wt3 (List.mem_of_getElem? (i := 73) (by decide +kernel))) (by decide +kernel)) (wA_of (List.mem_append_left _ (List.mem_map.mpr ⟨(⟨"YearRope", "sumBearings", "()I"⟩, 15), wp1 (List.mem_of_getElem? (i := 7) (by decide +kernel)), rfl⟩)) (by decide +kernel)) (wA_t (wt1 (List.mem_of_getElem? (i := 1) (by decide +kernel))) (by decide +kernel)) (wA_t (wt3 (List.mem_of_getElem? (i := 74) (by decide +kernel))) (by decide +kernel)) ⟨rfl, by decide +kernel, by decide +kernel, by decide +kernel⟩
def rm_X10_fewest : Room := { frames := 5, cells := 0, slots := 0, locals := 121 }
def k_X10_fewest_82 (τ : gτ) (n : Nat) (x0 : Nat) (x1 : Int32) (x2 : Int32) (x3 : Int32) (x5 : Int32)  (G : gG) : Option ((Int32 × Int32) ⊕ ((Int32))) :=
  gLet (x5 + 1) fun v9 =>
  some (.inl (x5, v9))
def k_X10_fewest_56 (τ : gτ) (n : Nat) (x0 : Nat) (x1 : Int32) (x2 : Int32) (x3 : Int32) (x4 : Int32) (x5 : Int32) (s0 : Int32) (G : gG) : Option ((Int32 × Int32) ⊕ ((Int32))) :=
  if s0 = 0 then (gLet (x5 + 1) fun v8 =>
  some (.inl (x4, v8)))
  else (if x4 = (-1 : Int32) then (k_X10_fewest_82 τ n x0 x1 x2 x3 x5  G)
  else ((f_J6_bitCount_0f7a4 x5).bind fun v10 =>
  (f_J6_bitCount_0f7a4 x4).bind fun v11 =>
  if v11 ≤ v10 then (gLet (x5 + 1) fun v12 =>
  some (.inl (x4, v12)))
  else (k_X10_fewest_82 τ n x0 x1 x2 x3 x5  G)))
def k_X10_fewest_55 (τ : gτ) (n : Nat) (x0 : Nat) (x1 : Int32) (x2 : Int32) (x3 : Int32) (x4 : Int32) (x5 : Int32)  (G : gG) : Option ((Int32 × Int32) ⊕ ((Int32))) :=
  k_X10_fewest_56 τ n x0 x1 x2 x3 x4 x5 (0 : Int32) G
def b_X10_fewest_27 (τ : gτ) (n : Nat) (x0 : Nat) (x1 : Int32) (x2 : Int32) (x3 : Int32) (x4 : Int32) (x5 : Int32) (G : gG) : Option ((Int32 × Int32) ⊕ ((Int32))) :=
  if x3 ≤ x5 then (some (.inr x4))
  else (if (x5 &&& x2) = 0 then ((gr G 10 8 x0).bind fun a7 =>
  gchk (gIn x5 (gn τ a7)) <|
  if (ge G a7 (Int32.toNatClampNeg x5)) < x1 then (k_X10_fewest_55 τ n x0 x1 x2 x3 x4 x5  G)
  else (k_X10_fewest_56 τ n x0 x1 x2 x3 x4 x5 (1 : Int32) G))
  else (k_X10_fewest_55 τ n x0 x1 x2 x3 x4 x5  G))
def l_X10_fewest_27 (τ : gτ) (n : Nat) (x0 : Nat) (x1 : Int32) (x2 : Int32) (x3 : Int32) (x4 : Int32) (x5 : Int32) (G : gG) : Option ((Int32)) :=
  gIter (fun (q : Int32 × Int32) => b_X10_fewest_27 τ n x0 x1 x2 x3 q.1 q.2 G) n (x4, x5)
def f_X10_fewest (τ : gτ) (n : Nat) (x0 : Nat) (G : gG) : Option (Int32 × gG) :=
  (gr G 10 10 x0).bind fun a1 =>
  (f_X6_hangingLoads τ n a1 G).bind fun v2 =>
  (gr G 10 10 x0).bind fun a3 =>
  (f_X6_brokenRopes τ n a3 G).bind fun v4 =>
  gBind2 (f_X10_sumBearings τ n x0 G) fun v5 G6 =>
  (l_X10_fewest_27 τ n x0 v2 v4 v5 (-1 : Int32) (0 : Int32) G6).bind fun q => gLet q fun z13 => 
  some (z13, G6)
set_option maxHeartbeats 4000000 in
set_option maxRecDepth 100000 in
theorem w_X10_fewest_82 {X : gX} {τ : gτ} {p : Program} {l : Launch} {e : Env} {s : State} {m : MethodId} {args : Array Value} {below : List Frame} {meth : Method} {c : Code} (fx : gFx X p s m args meth c cX10_fewest 7 RX10) (n : Nat) (x0 : Nat) (x1 : Int32) (x2 : Int32) (x3 : Int32) (x5 : Int32)  (h0 : gK τ x0 10)  {Q : State → Prop} {K : ((Int32 × Int32) ⊕ ((Int32))) → Prop} {G : gG} {H : Heap} {locs : List Loc} {ls : Array Slot} (hw : gHw X τ G H locs) (hl : lv_has ls 7 [(0, .ref x0), (1, .int x1), (2, .int x2), (3, .int x3), (5, .int x5)]) (hok : gOk (k_X10_fewest_82 τ n x0 x1 x2 x3 x5  G) K) (hc : ∀ (y4 : Int32) (y5 : Int32) (H : Heap) (locs : List Loc) (ls : Array Slot), gHw X τ G H locs → lv_has ls 7 [(0, .ref x0), (1, .int x1), (2, .int x2), (3, .int x3), (4, .int y4), (5, .int y5)] → K (.inl (y4, y5)) → W p l e rm_X10_fewest s m args below meth c H locs 0 0 Q (F0 m 27 ls [])) (hx0 : ∀ (y4 : Int32) (H : Heap) (locs : List Loc) (ls : Array Slot), gHw X τ G H locs → lv_has ls 7 [(4, .int y4)] → K (.inr y4) → W p l e rm_X10_fewest s m args below meth c H locs 0 0 Q (F0 m 92 ls [])) : W p l e rm_X10_fewest s m args below meth c H locs 0 0 Q (F0 m 82 ls []) := by
  unfold k_X10_fewest_82 at hok
  refine lv_iload fx.1 fx.2.1 dX10_fewest_82 (lv_at hl 4 rfl) ?_
  refine lv_istore (lv' := [(4, .int x5), (0, .ref x0), (1, .int x1), (2, .int x2), (3, .int x3), (5, .int x5)]) fx.1 fx.2.1 dX10_fewest_84 hl (by decide) rfl (fun ls hl => ?_)
  obtain ⟨v9, e_v9, hok⟩ := gOk_let hok
  refine lv_iinc (v := v9) (lv' := [(5, .int v9), (4, .int x5), (0, .ref x0), (1, .int x1), (2, .int x2), (3, .int x3)]) fx.1 fx.2.1 dX10_fewest_86 hl (k := 5) rfl (by rw [e_v9]; rfl) (by decide) rfl (fun ls hl => ?_)
  refine lv_goto (tgt := 27) fx.1 fx.2.1 dX10_fewest_89 (by decide) ?_
  exact hc x5 v9  _ _ _  hw (lv_sub hl [2, 3, 4, 5, 1, 0] rfl) (gOk_some hok)
set_option maxHeartbeats 4000000 in
set_option maxRecDepth 100000 in
theorem w_X10_fewest_56 {X : gX} {τ : gτ} {p : Program} {l : Launch} {e : Env} {s : State} {m : MethodId} {args : Array Value} {below : List Frame} {meth : Method} {c : Code} (fx : gFx X p s m args meth c cX10_fewest 7 RX10) (n : Nat) (x0 : Nat) (x1 : Int32) (x2 : Int32) (x3 : Int32) (x4 : Int32) (x5 : Int32) (s0 : Int32) (h0 : gK τ x0 10)  {Q : State → Prop} {K : ((Int32 × Int32) ⊕ ((Int32))) → Prop} {G : gG} {H : Heap} {locs : List Loc} {ls : Array Slot} (hw : gHw X τ G H locs) (hl : lv_has ls 7 [(0, .ref x0), (1, .int x1), (2, .int x2), (3, .int x3), (4, .int x4), (5, .int x5)]) (hok : gOk (k_X10_fewest_56 τ n x0 x1 x2 x3 x4 x5 s0 G) K) (hc : ∀ (y4 : Int32) (y5 : Int32) (H : Heap) (locs : List Loc) (ls : Array Slot), gHw X τ G H locs → lv_has ls 7 [(0, .ref x0), (1, .int x1), (2, .int x2), (3, .int x3), (4, .int y4), (5, .int y5)] → K (.inl (y4, y5)) → W p l e rm_X10_fewest s m args below meth c H locs 0 0 Q (F0 m 27 ls [])) (hx0 : ∀ (y4 : Int32) (H : Heap) (locs : List Loc) (ls : Array Slot), gHw X τ G H locs → lv_has ls 7 [(4, .int y4)] → K (.inr y4) → W p l e rm_X10_fewest s m args below meth c H locs 0 0 Q (F0 m 92 ls [])) : W p l e rm_X10_fewest s m args below meth c H locs 0 0 Q (F0 m 56 ls [.int s0]) := by
  unfold k_X10_fewest_56 at hok
  refine lv_istore (lv' := [(6, .int s0), (0, .ref x0), (1, .int x1), (2, .int x2), (3, .int x3), (4, .int x4), (5, .int x5)]) fx.1 fx.2.1 dX10_fewest_56 hl (by decide) rfl (fun ls hl => ?_)
  refine lv_iload fx.1 fx.2.1 dX10_fewest_58 (lv_at hl 0 rfl) ?_
  refine g_if_eq (tgt := 86) fx dX10_fewest_60 (by decide) hok (fun hok => ?_) (fun hok => ?_)
  · obtain ⟨v8, e_v8, hok⟩ := gOk_let hok
    refine lv_iinc (v := v8) (lv' := [(5, .int v8), (6, .int s0), (0, .ref x0), (1, .int x1), (2, .int x2), (3, .int x3), (4, .int x4)]) fx.1 fx.2.1 dX10_fewest_86 hl (k := 6) rfl (by rw [e_v8]; rfl) (by decide) rfl (fun ls hl => ?_)
    refine lv_goto (tgt := 27) fx.1 fx.2.1 dX10_fewest_89 (by decide) ?_
    exact hc x4 v8  _ _ _  hw (lv_sub hl [2, 3, 4, 5, 6, 0] rfl) (gOk_some hok)
  · refine lv_iload fx.1 fx.2.1 dX10_fewest_63 (lv_at hl 5 rfl) ?_
    refine lv_iconst (v := (-1)) fx.1 fx.2.1 dX10_fewest_65 (by decide) ?_
    refine g_icmp_eq (tgt := 82) fx dX10_fewest_66 (by decide) hok (fun hok => ?_) (fun hok => ?_)
    · exact w_X10_fewest_82 fx n x0 x1 x2 x3 x5  h0  hw (lv_sub hl [1, 2, 3, 4, 6] rfl) hok hc hx0
    · refine lv_iload fx.1 fx.2.1 dX10_fewest_69 (lv_at hl 6 rfl) ?_
      obtain ⟨v10, hf, hok⟩ := gOk_bind hok
      refine g_callS0 fx hw (c_J6_bitCount_0f7a4 l X τ x5 G  hf) ls_RX10_350 ⟨rfl, rfl⟩ rfl hl.1 rfl ⟨Nat.le_of_ble_eq_true rfl, Nat.le_of_ble_eq_true rfl⟩ (Nat.le_of_ble_eq_true rfl) ⟨Nat.le_of_ble_eq_true rfl, Nat.le_of_ble_eq_true rfl⟩ dX10_fewest_71 (fun H locs hw => ?_)
      refine lv_iload fx.1 fx.2.1 dX10_fewest_74 (lv_at hl 5 rfl) ?_
      obtain ⟨v11, hf, hok⟩ := gOk_bind hok
      refine g_callS0 fx hw (c_J6_bitCount_0f7a4 l X τ x4 G  hf) ls_RX10_350 ⟨rfl, rfl⟩ rfl hl.1 rfl ⟨Nat.le_of_ble_eq_true rfl, Nat.le_of_ble_eq_true rfl⟩ (Nat.le_of_ble_eq_true rfl) ⟨Nat.le_of_ble_eq_true rfl, Nat.le_of_ble_eq_true rfl⟩ dX10_fewest_76 (fun H locs hw => ?_)
      refine g_icmp_ge (tgt := 86) fx dX10_fewest_79 (by decide) hok (fun hok => ?_) (fun hok => ?_)
      · obtain ⟨v12, e_v12, hok⟩ := gOk_let hok
        refine lv_iinc (v := v12) (lv' := [(5, .int v12), (6, .int s0), (0, .ref x0), (1, .int x1), (2, .int x2), (3, .int x3), (4, .int x4)]) fx.1 fx.2.1 dX10_fewest_86 hl (k := 6) rfl (by rw [e_v12]; rfl) (by decide) rfl (fun ls hl => ?_)
        refine lv_goto (tgt := 27) fx.1 fx.2.1 dX10_fewest_89 (by decide) ?_
        exact hc x4 v12  _ _ _  hw (lv_sub hl [2, 3, 4, 5, 6, 0] rfl) (gOk_some hok)
      · exact w_X10_fewest_82 fx n x0 x1 x2 x3 x5  h0  hw (lv_sub hl [1, 2, 3, 4, 6] rfl) hok hc hx0
set_option maxHeartbeats 4000000 in
set_option maxRecDepth 100000 in
theorem w_X10_fewest_55 {X : gX} {τ : gτ} {p : Program} {l : Launch} {e : Env} {s : State} {m : MethodId} {args : Array Value} {below : List Frame} {meth : Method} {c : Code} (fx : gFx X p s m args meth c cX10_fewest 7 RX10) (n : Nat) (x0 : Nat) (x1 : Int32) (x2 : Int32) (x3 : Int32) (x4 : Int32) (x5 : Int32)  (h0 : gK τ x0 10)  {Q : State → Prop} {K : ((Int32 × Int32) ⊕ ((Int32))) → Prop} {G : gG} {H : Heap} {locs : List Loc} {ls : Array Slot} (hw : gHw X τ G H locs) (hl : lv_has ls 7 [(0, .ref x0), (1, .int x1), (2, .int x2), (3, .int x3), (4, .int x4), (5, .int x5)]) (hok : gOk (k_X10_fewest_55 τ n x0 x1 x2 x3 x4 x5  G) K) (hc : ∀ (y4 : Int32) (y5 : Int32) (H : Heap) (locs : List Loc) (ls : Array Slot), gHw X τ G H locs → lv_has ls 7 [(0, .ref x0), (1, .int x1), (2, .int x2), (3, .int x3), (4, .int y4), (5, .int y5)] → K (.inl (y4, y5)) → W p l e rm_X10_fewest s m args below meth c H locs 0 0 Q (F0 m 27 ls [])) (hx0 : ∀ (y4 : Int32) (H : Heap) (locs : List Loc) (ls : Array Slot), gHw X τ G H locs → lv_has ls 7 [(4, .int y4)] → K (.inr y4) → W p l e rm_X10_fewest s m args below meth c H locs 0 0 Q (F0 m 92 ls [])) : W p l e rm_X10_fewest s m args below meth c H locs 0 0 Q (F0 m 55 ls []) := by
  unfold k_X10_fewest_55 at hok
  refine lv_iconst (v := 0) fx.1 fx.2.1 dX10_fewest_55 (by decide) ?_
  exact w_X10_fewest_56 fx n x0 x1 x2 x3 x4 x5 (0 : Int32) h0  hw (lv_sub hl [0, 1, 2, 3, 4, 5] rfl) hok hc hx0
set_option maxHeartbeats 4000000 in
set_option maxRecDepth 100000 in
theorem w_b_X10_fewest_27 {X : gX} {τ : gτ} {p : Program} {l : Launch} {e : Env} {s : State} {m : MethodId} {args : Array Value} {below : List Frame} {meth : Method} {c : Code} (fx : gFx X p s m args meth c cX10_fewest 7 RX10) (n : Nat) (x0 : Nat) (x1 : Int32) (x2 : Int32) (x3 : Int32) (x4 : Int32) (x5 : Int32) (h0 : gK τ x0 10) {Q : State → Prop} {K : ((Int32 × Int32) ⊕ ((Int32))) → Prop} {G : gG} {H : Heap} {locs : List Loc} {ls : Array Slot} (hw : gHw X τ G H locs) (hl : lv_has ls 7 [(0, .ref x0), (1, .int x1), (2, .int x2), (3, .int x3), (4, .int x4), (5, .int x5)]) (hok : gOk (b_X10_fewest_27 τ n x0 x1 x2 x3 x4 x5 G) K) (hc : ∀ (y4 : Int32) (y5 : Int32) (H : Heap) (locs : List Loc) (ls : Array Slot), gHw X τ G H locs → lv_has ls 7 [(0, .ref x0), (1, .int x1), (2, .int x2), (3, .int x3), (4, .int y4), (5, .int y5)] → K (.inl (y4, y5)) → W p l e rm_X10_fewest s m args below meth c H locs 0 0 Q (F0 m 27 ls [])) (hx0 : ∀ (y4 : Int32) (H : Heap) (locs : List Loc) (ls : Array Slot), gHw X τ G H locs → lv_has ls 7 [(4, .int y4)] → K (.inr y4) → W p l e rm_X10_fewest s m args below meth c H locs 0 0 Q (F0 m 92 ls [])) : W p l e rm_X10_fewest s m args below meth c H locs 0 0 Q (F0 m 27 ls []) := by
  unfold b_X10_fewest_27 at hok
  refine lv_iload fx.1 fx.2.1 dX10_fewest_27 (lv_at hl 5 rfl) ?_
  refine lv_iload_n fx.1 fx.2.1 dX10_fewest_29 rfl (lv_at hl 3 rfl) ?_
  refine g_icmp_ge (tgt := 92) fx dX10_fewest_30 (by decide) hok (fun hok => ?_) (fun hok => ?_)
  · exact hx0 x4  _ _ _  hw (lv_sub hl [4] rfl) (gOk_some hok)
  · refine lv_iload fx.1 fx.2.1 dX10_fewest_33 (lv_at hl 5 rfl) ?_
    refine lv_iload_n fx.1 fx.2.1 dX10_fewest_35 rfl (lv_at hl 2 rfl) ?_
    refine lv_iand fx.1 fx.2.1 dX10_fewest_36 ?_
    refine g_if_ne (tgt := 55) fx dX10_fewest_37 (by decide) hok (fun hok => ?_) (fun hok => ?_)
    · refine lv_aload_n fx.1 fx.2.1 dX10_fewest_40 rfl (lv_at hl 0 rfl) ?_
      refine g_getr fx hw h0 lf_RX10_64 rfl dX10_fewest_41 hok (fun a7 h_a7 hok => ?_)
      refine lv_iload fx.1 fx.2.1 dX10_fewest_44 (lv_at hl 5 rfl) ?_
      refine g_iald fx hw h_a7 dX10_fewest_46 hok (fun hok => ?_)
      refine lv_iload_n fx.1 fx.2.1 dX10_fewest_47 rfl (lv_at hl 1 rfl) ?_
      refine g_icmp_lt (tgt := 55) fx dX10_fewest_48 (by decide) hok (fun hok => ?_) (fun hok => ?_)
      · exact w_X10_fewest_55 fx n x0 x1 x2 x3 x4 x5  h0  hw (lv_sub hl [0, 1, 2, 3, 4, 5] rfl) hok hc hx0
      · refine lv_iconst (v := 1) fx.1 fx.2.1 dX10_fewest_51 (by decide) ?_
        refine lv_goto (tgt := 56) fx.1 fx.2.1 dX10_fewest_52 (by decide) ?_
        exact w_X10_fewest_56 fx n x0 x1 x2 x3 x4 x5 (1 : Int32) h0  hw (lv_sub hl [0, 1, 2, 3, 4, 5] rfl) hok hc hx0
    · exact w_X10_fewest_55 fx n x0 x1 x2 x3 x4 x5  h0  hw (lv_sub hl [0, 1, 2, 3, 4, 5] rfl) hok hc hx0
theorem w_l_X10_fewest_27 {X : gX} {τ : gτ} {p : Program} {l : Launch} {e : Env} {s : State} {m : MethodId} {args : Array Value} {below : List Frame} {meth : Method} {c : Code} (fx : gFx X p s m args meth c cX10_fewest 7 RX10) (n : Nat) (x0 : Nat) (x1 : Int32) (x2 : Int32) (x3 : Int32) (h0 : gK τ x0 10) (G : gG) {Q : State → Prop} {K : ((Int32)) → Prop} (hx0 : ∀ (y4 : Int32) (H : Heap) (locs : List Loc) (ls : Array Slot), gHw X τ G H locs → lv_has ls 7 [(4, .int y4)] → K y4 → W p l e rm_X10_fewest s m args below meth c H locs 0 0 Q (F0 m 92 ls [])) : ∀ (k : Nat) (x4 : Int32) (x5 : Int32) (H : Heap) (locs : List Loc) (ls : Array Slot), gHw X τ G H locs → lv_has ls 7 [(0, .ref x0), (1, .int x1), (2, .int x2), (3, .int x3), (4, .int x4), (5, .int x5)] → gOk (gIter (fun (q : Int32 × Int32) => b_X10_fewest_27 τ n x0 x1 x2 x3 q.1 q.2 G) k (x4, x5)) K → W p l e rm_X10_fewest s m args below meth c H locs 0 0 Q (F0 m 27 ls []) := by
  intro k
  induction k with
  | zero =>
    intro x4 x5  H locs ls hw hl hok
    exact gOk_iter0 hok
  | succ k hc =>
    intro x4 x5  H locs ls hw hl hok
    exact w_b_X10_fewest_27 fx n x0 x1 x2 x3 x4 x5 h0 hw hl (gOk_iter hok) hc hx0
set_option maxHeartbeats 4000000 in
set_option maxRecDepth 100000 in
theorem c_X10_fewest (l : Launch) (X : gX) (τ : gτ) (n : Nat) (x0 : Nat) (G : gG) (h0 : gK τ x0 10) {r : Int32} {G' : gG} (h : f_X10_fewest τ n x0 G = some (r, G')) : gM l X τ yX10_fewest cX10_fewest 7 (some .int) rm_X10_fewest [.ref x0] G (some (.int r)) G' := by
  refine g_body (by decide +kernel) (Nat.le_of_ble_eq_true rfl) ?_
  intro p e s m args below meth c ls fx hr hw hl
  have fx : gFx X p s m args meth c cX10_fewest 7 RX10 := fx
  have hl : lv_has ls 7 [(0, .ref x0)] := hl
  have hok : gOk (f_X10_fewest τ n x0 G) (fun q => q = (r, G')) := ⟨_, h, rfl⟩
  unfold f_X10_fewest at hok
  show W p l e rm_X10_fewest s m args below meth c s.heap [] 0 0 (MQ below (gQ X τ (some (.int r)) G') args s 0 0 (gFree X)) _
  refine lv_aload_n fx.1 fx.2.1 dX10_fewest_0 rfl (lv_at hl 0 rfl) ?_
  refine g_getr fx hw h0 lf_RX10_70 rfl dX10_fewest_1 hok (fun a1 h_a1 hok => ?_)
  obtain ⟨v2, hf, hok⟩ := gOk_bind hok
  refine g_callV0 (κ := 6) fx hw (c_X6_hangingLoads l X τ n a1 G h_a1 hf) lv_RX10_388 ⟨rfl, rfl⟩ rfl rfl h_a1 rfl hl.1 rfl ⟨Nat.le_of_ble_eq_true rfl, Nat.le_of_ble_eq_true rfl⟩ (Nat.le_of_ble_eq_true rfl) ⟨Nat.le_of_ble_eq_true rfl, Nat.le_of_ble_eq_true rfl⟩ dX10_fewest_4 (fun H locs hw => ?_)
  refine lv_istore_n (lv' := [(1, .int v2), (0, .ref x0)]) fx.1 fx.2.1 dX10_fewest_7 rfl hl (by decide) rfl (fun ls hl => ?_)
  refine lv_aload_n fx.1 fx.2.1 dX10_fewest_8 rfl (lv_at hl 1 rfl) ?_
  refine g_getr fx hw h0 lf_RX10_70 rfl dX10_fewest_9 hok (fun a3 h_a3 hok => ?_)
  obtain ⟨v4, hf, hok⟩ := gOk_bind hok
  refine g_callV0 (κ := 6) fx hw (c_X6_brokenRopes l X τ n a3 G h_a3 hf) lv_RX10_391 ⟨rfl, rfl⟩ rfl rfl h_a3 rfl hl.1 rfl ⟨Nat.le_of_ble_eq_true rfl, Nat.le_of_ble_eq_true rfl⟩ (Nat.le_of_ble_eq_true rfl) ⟨Nat.le_of_ble_eq_true rfl, Nat.le_of_ble_eq_true rfl⟩ dX10_fewest_12 (fun H locs hw => ?_)
  refine lv_istore_n (lv' := [(2, .int v4), (1, .int v2), (0, .ref x0)]) fx.1 fx.2.1 dX10_fewest_15 rfl hl (by decide) rfl (fun ls hl => ?_)
  refine lv_aload_n fx.1 fx.2.1 dX10_fewest_16 rfl (lv_at hl 2 rfl) ?_
  obtain ⟨v5, G6, hf, hok⟩ := gOk_bind2 hok
  refine g_callV0 (κ := 10) fx hw (c_X10_sumBearings l X τ n x0 G h0 hf) lv_RX10_394 ⟨rfl, rfl⟩ rfl rfl h0 rfl hl.1 rfl ⟨Nat.le_of_ble_eq_true rfl, Nat.le_of_ble_eq_true rfl⟩ (Nat.le_of_ble_eq_true rfl) ⟨Nat.le_of_ble_eq_true rfl, Nat.le_of_ble_eq_true rfl⟩ dX10_fewest_17 (fun H locs hw => ?_)
  refine lv_istore_n (lv' := [(3, .int v5), (2, .int v4), (1, .int v2), (0, .ref x0)]) fx.1 fx.2.1 dX10_fewest_20 rfl hl (by decide) rfl (fun ls hl => ?_)
  refine lv_iconst (v := (-1)) fx.1 fx.2.1 dX10_fewest_21 (by decide) ?_
  refine lv_istore (lv' := [(4, .int (-1 : Int32)), (3, .int v5), (2, .int v4), (1, .int v2), (0, .ref x0)]) fx.1 fx.2.1 dX10_fewest_22 hl (by decide) rfl (fun ls hl => ?_)
  refine lv_iconst (v := 0) fx.1 fx.2.1 dX10_fewest_24 (by decide) ?_
  refine lv_istore (lv' := [(5, .int (0 : Int32)), (4, .int (-1 : Int32)), (3, .int v5), (2, .int v4), (1, .int v2), (0, .ref x0)]) fx.1 fx.2.1 dX10_fewest_25 hl (by decide) rfl (fun ls hl => ?_)
  refine w_l_X10_fewest_27 fx n x0 v2 v4 v5 h0 G6 ?_ n (-1 : Int32) (0 : Int32)  _ _ _  hw (lv_sub hl [5, 4, 3, 2, 1, 0] rfl) (gOk_bindK hok)
  intro z13  H locs ls hw hl hok
  have hok : gOk (ρ := Int32 × gG) (some (z13, G6)) _ := hok
  refine lv_iload fx.1 fx.2.1 dX10_fewest_92 (lv_at hl 0 rfl) ?_
  cases gOk_some hok
  exact g_iret fx hw hr dX10_fewest_94
theorem dX10_buys_0 : decode cX10_buys 0 = .ok (.iload_n 1, 1) := by decide +kernel
theorem dX10_buys_1 : decode cX10_buys 1 = .ok (.iconst 0, 1) := by decide +kernel
theorem dX10_buys_2 : decode cX10_buys 2 = .ok (.sipush 9999, 3) := by decide +kernel
theorem dX10_buys_5 : decode cX10_buys 5 = .ok (.invokestatic 224, 3) := by decide +kernel
theorem dX10_buys_8 : decode cX10_buys 8 = .ok (.aload_n 0, 1) := by decide +kernel
theorem dX10_buys_9 : decode cX10_buys 9 = .ok (.invokevirtual 394, 3) := by decide +kernel
theorem dX10_buys_12 : decode cX10_buys 12 = .ok (.istore_n 2, 1) := by decide +kernel
theorem dX10_buys_13 : decode cX10_buys 13 = .ok (.iconst 0, 1) := by decide +kernel
theorem dX10_buys_14 : decode cX10_buys 14 = .ok (.istore_n 3, 1) := by decide +kernel
theorem dX10_buys_15 : decode cX10_buys 15 = .ok (.iconst 1, 1) := by decide +kernel
theorem dX10_buys_16 : decode cX10_buys 16 = .ok (.istore 4, 2) := by decide +kernel
theorem dX10_buys_18 : decode cX10_buys 18 = .ok (.iload 4, 2) := by decide +kernel
theorem dX10_buys_20 : decode cX10_buys 20 = .ok (.iload_n 2, 1) := by decide +kernel
theorem dX10_buys_21 : decode cX10_buys 21 = .ok (.if_icmp .ge 41, 3) := by decide +kernel
theorem dX10_buys_24 : decode cX10_buys 24 = .ok (.aload_n 0, 1) := by decide +kernel
theorem dX10_buys_25 : decode cX10_buys 25 = .ok (.getfield 64, 3) := by decide +kernel
theorem dX10_buys_28 : decode cX10_buys 28 = .ok (.iload 4, 2) := by decide +kernel
theorem dX10_buys_30 : decode cX10_buys 30 = .ok (.iaload, 1) := by decide +kernel
theorem dX10_buys_31 : decode cX10_buys 31 = .ok (.aload_n 0, 1) := by decide +kernel
theorem dX10_buys_32 : decode cX10_buys 32 = .ok (.getfield 64, 3) := by decide +kernel
theorem dX10_buys_35 : decode cX10_buys 35 = .ok (.iload_n 3, 1) := by decide +kernel
theorem dX10_buys_36 : decode cX10_buys 36 = .ok (.iaload, 1) := by decide +kernel
theorem dX10_buys_37 : decode cX10_buys 37 = .ok (.if_icmp .le 19, 3) := by decide +kernel
theorem dX10_buys_40 : decode cX10_buys 40 = .ok (.aload_n 0, 1) := by decide +kernel
theorem dX10_buys_41 : decode cX10_buys 41 = .ok (.getfield 70, 3) := by decide +kernel
theorem dX10_buys_44 : decode cX10_buys 44 = .ok (.iload 4, 2) := by decide +kernel
theorem dX10_buys_46 : decode cX10_buys 46 = .ok (.invokevirtual 397, 3) := by decide +kernel
theorem dX10_buys_49 : decode cX10_buys 49 = .ok (.iload_n 1, 1) := by decide +kernel
theorem dX10_buys_50 : decode cX10_buys 50 = .ok (.if_icmp .gt 6, 3) := by decide +kernel
theorem dX10_buys_53 : decode cX10_buys 53 = .ok (.iload 4, 2) := by decide +kernel
theorem dX10_buys_55 : decode cX10_buys 55 = .ok (.istore_n 3, 1) := by decide +kernel
theorem dX10_buys_56 : decode cX10_buys 56 = .ok (.iinc 4 1, 3) := by decide +kernel
theorem dX10_buys_59 : decode cX10_buys 59 = .ok (.goto (-41), 3) := by decide +kernel
theorem dX10_buys_62 : decode cX10_buys 62 = .ok (.iload_n 3, 1) := by decide +kernel
theorem dX10_buys_63 : decode cX10_buys 63 = .ok (.ireturn, 1) := by decide +kernel
theorem lv_RX10_397 : gLv RX10 397 RX6 yX6_pricesOf cX6_pricesOf 4 (some .int) 1 := gLv_of (wA_t (wt6 (List.mem_of_getElem? (i := 141) (by decide +kernel))) (by decide +kernel)) (wA_t (wt6 (List.mem_of_getElem? (i := 142) (by decide +kernel))) (by decide +kernel)) (wA_t (wt6 (List.mem_of_getElem? (i := 143) (by decide +kernel))) (by decide +kernel)) (wA_t (wt1 (List.mem_of_getElem? (i := 6) (by decide +kernel))) (by decide +kernel)) (wA_t (wt6 (List.mem_of_getElem? (i := 144) (by decide +kernel))) (by decide +kernel)) ⟨rfl, by decide +kernel, by decide +kernel, by decide +kernel⟩
def rm_X10_buys : Room := { frames := 7, cells := 1, slots := 6, locals := 142 }
def b_X10_buys_18 (τ : gτ) (n : Nat) (x0 : Nat) (x1 : Int32) (x2 : Int32) (x3 : Int32) (x4 : Int32) (G : gG) : Option ((Int32 × Int32) ⊕ ((Int32))) :=
  if x2 ≤ x4 then (some (.inr x3))
  else ((gr G 10 8 x0).bind fun a4 =>
  gchk (gIn x4 (gn τ a4)) <|
  (gr G 10 8 x0).bind fun a5 =>
  gchk (gIn x3 (gn τ a5)) <|
  if (ge G a4 (Int32.toNatClampNeg x4)) ≤ (ge G a5 (Int32.toNatClampNeg x3)) then (gLet (x4 + 1) fun v6 =>
  some (.inl (x3, v6)))
  else ((gr G 10 10 x0).bind fun a7 =>
  (f_X6_pricesOf τ n a7 x4 G).bind fun v8 =>
  if x1 < v8 then (gLet (x4 + 1) fun v9 =>
  some (.inl (x3, v9)))
  else (gLet (x4 + 1) fun v10 =>
  some (.inl (x4, v10)))))
def l_X10_buys_18 (τ : gτ) (n : Nat) (x0 : Nat) (x1 : Int32) (x2 : Int32) (x3 : Int32) (x4 : Int32) (G : gG) : Option ((Int32)) :=
  gIter (fun (q : Int32 × Int32) => b_X10_buys_18 τ n x0 x1 x2 q.1 q.2 G) n (x3, x4)
def f_X10_buys (τ : gτ) (n : Nat) (x0 : Nat) (x1 : Int32) (G : gG) : Option ((String ⊕ Int32) × gG) :=
  gBindX (f_X10_needWithin x1 (0 : Int32) (9999 : Int32) G) fun _ G1 =>
  gBind2 (f_X10_sumBearings τ n x0 G1) fun v2 G3 =>
  (l_X10_buys_18 τ n x0 x1 v2 (0 : Int32) (1 : Int32) G3).bind fun q => gLet q fun z11 => 
  some (.inr z11, G3)
set_option maxHeartbeats 4000000 in
set_option maxRecDepth 100000 in
theorem w_b_X10_buys_18 {X : gX} {τ : gτ} {p : Program} {l : Launch} {e : Env} {s : State} {m : MethodId} {args : Array Value} {below : List Frame} {meth : Method} {c : Code} (fx : gFx X p s m args meth c cX10_buys 5 RX10) (hS : gS0 l X) (hxt : ∀ x ∈ c.exceptionTable.toList, False) (n : Nat) (x0 : Nat) (x1 : Int32) (x2 : Int32) (x3 : Int32) (x4 : Int32) (h0 : gK τ x0 10) {Q : State → Prop} {K : ((Int32 × Int32) ⊕ ((Int32))) → Prop} {G : gG} {H : Heap} {locs : List Loc} {ls : Array Slot} (hw : gHw X τ G H locs) (hl : lv_has ls 5 [(0, .ref x0), (1, .int x1), (2, .int x2), (3, .int x3), (4, .int x4)]) (hok : gOk (b_X10_buys_18 τ n x0 x1 x2 x3 x4 G) K) (hc : ∀ (y3 : Int32) (y4 : Int32) (H : Heap) (locs : List Loc) (ls : Array Slot), gHw X τ G H locs → lv_has ls 5 [(0, .ref x0), (1, .int x1), (2, .int x2), (3, .int y3), (4, .int y4)] → K (.inl (y3, y4)) → W p l e rm_X10_buys s m args below meth c H locs 1 6 Q (F0 m 18 ls [])) (hx0 : ∀ (y3 : Int32) (H : Heap) (locs : List Loc) (ls : Array Slot), gHw X τ G H locs → lv_has ls 5 [(3, .int y3)] → K (.inr y3) → W p l e rm_X10_buys s m args below meth c H locs 1 6 Q (F0 m 62 ls [])) : W p l e rm_X10_buys s m args below meth c H locs 1 6 Q (F0 m 18 ls []) := by
  unfold b_X10_buys_18 at hok
  refine lv_iload fx.1 fx.2.1 dX10_buys_18 (lv_at hl 4 rfl) ?_
  refine lv_iload_n fx.1 fx.2.1 dX10_buys_20 rfl (lv_at hl 2 rfl) ?_
  refine g_icmp_ge (tgt := 62) fx dX10_buys_21 (by decide) hok (fun hok => ?_) (fun hok => ?_)
  · exact hx0 x3  _ _ _  hw (lv_sub hl [3] rfl) (gOk_some hok)
  · refine lv_aload_n fx.1 fx.2.1 dX10_buys_24 rfl (lv_at hl 0 rfl) ?_
    refine g_getr fx hw h0 lf_RX10_64 rfl dX10_buys_25 hok (fun a4 h_a4 hok => ?_)
    refine lv_iload fx.1 fx.2.1 dX10_buys_28 (lv_at hl 4 rfl) ?_
    refine g_iald fx hw h_a4 dX10_buys_30 hok (fun hok => ?_)
    refine lv_aload_n fx.1 fx.2.1 dX10_buys_31 rfl (lv_at hl 0 rfl) ?_
    refine g_getr fx hw h0 lf_RX10_64 rfl dX10_buys_32 hok (fun a5 h_a5 hok => ?_)
    refine lv_iload_n fx.1 fx.2.1 dX10_buys_35 rfl (lv_at hl 3 rfl) ?_
    refine g_iald fx hw h_a5 dX10_buys_36 hok (fun hok => ?_)
    refine g_icmp_le (tgt := 56) fx dX10_buys_37 (by decide) hok (fun hok => ?_) (fun hok => ?_)
    · obtain ⟨v6, e_v6, hok⟩ := gOk_let hok
      refine lv_iinc (v := v6) (lv' := [(4, .int v6), (0, .ref x0), (1, .int x1), (2, .int x2), (3, .int x3)]) fx.1 fx.2.1 dX10_buys_56 hl (k := 4) rfl (by rw [e_v6]; rfl) (by decide) rfl (fun ls hl => ?_)
      refine lv_goto (tgt := 18) fx.1 fx.2.1 dX10_buys_59 (by decide) ?_
      exact hc x3 v6  _ _ _  hw (lv_sub hl [1, 2, 3, 4, 0] rfl) (gOk_some hok)
    · refine lv_aload_n fx.1 fx.2.1 dX10_buys_40 rfl (lv_at hl 0 rfl) ?_
      refine g_getr fx hw h0 lf_RX10_70 rfl dX10_buys_41 hok (fun a7 h_a7 hok => ?_)
      refine lv_iload fx.1 fx.2.1 dX10_buys_44 (lv_at hl 4 rfl) ?_
      obtain ⟨v8, hf, hok⟩ := gOk_bind hok
      refine g_callV0 (κ := 6) fx hw (c_X6_pricesOf l X τ n a7 x4 G h_a7 hf) lv_RX10_397 ⟨rfl, rfl⟩ rfl rfl h_a7 rfl hl.1 rfl ⟨Nat.le_of_ble_eq_true rfl, Nat.le_of_ble_eq_true rfl⟩ (Nat.le_of_ble_eq_true rfl) ⟨Nat.le_of_ble_eq_true rfl, Nat.le_of_ble_eq_true rfl⟩ dX10_buys_46 (fun H locs hw => ?_)
      refine lv_iload_n fx.1 fx.2.1 dX10_buys_49 rfl (lv_at hl 1 rfl) ?_
      refine g_icmp_gt (tgt := 56) fx dX10_buys_50 (by decide) hok (fun hok => ?_) (fun hok => ?_)
      · obtain ⟨v9, e_v9, hok⟩ := gOk_let hok
        refine lv_iinc (v := v9) (lv' := [(4, .int v9), (0, .ref x0), (1, .int x1), (2, .int x2), (3, .int x3)]) fx.1 fx.2.1 dX10_buys_56 hl (k := 4) rfl (by rw [e_v9]; rfl) (by decide) rfl (fun ls hl => ?_)
        refine lv_goto (tgt := 18) fx.1 fx.2.1 dX10_buys_59 (by decide) ?_
        exact hc x3 v9  _ _ _  hw (lv_sub hl [1, 2, 3, 4, 0] rfl) (gOk_some hok)
      · refine lv_iload fx.1 fx.2.1 dX10_buys_53 (lv_at hl 4 rfl) ?_
        refine lv_istore_n (lv' := [(3, .int x4), (0, .ref x0), (1, .int x1), (2, .int x2), (4, .int x4)]) fx.1 fx.2.1 dX10_buys_55 rfl hl (by decide) rfl (fun ls hl => ?_)
        obtain ⟨v10, e_v10, hok⟩ := gOk_let hok
        refine lv_iinc (v := v10) (lv' := [(4, .int v10), (3, .int x4), (0, .ref x0), (1, .int x1), (2, .int x2)]) fx.1 fx.2.1 dX10_buys_56 hl (k := 4) rfl (by rw [e_v10]; rfl) (by decide) rfl (fun ls hl => ?_)
        refine lv_goto (tgt := 18) fx.1 fx.2.1 dX10_buys_59 (by decide) ?_
        exact hc x4 v10  _ _ _  hw (lv_sub hl [2, 3, 4, 1, 0] rfl) (gOk_some hok)
theorem w_l_X10_buys_18 {X : gX} {τ : gτ} {p : Program} {l : Launch} {e : Env} {s : State} {m : MethodId} {args : Array Value} {below : List Frame} {meth : Method} {c : Code} (fx : gFx X p s m args meth c cX10_buys 5 RX10) (hS : gS0 l X) (hxt : ∀ x ∈ c.exceptionTable.toList, False) (n : Nat) (x0 : Nat) (x1 : Int32) (x2 : Int32) (h0 : gK τ x0 10) (G : gG) {Q : State → Prop} {K : ((Int32)) → Prop} (hx0 : ∀ (y3 : Int32) (H : Heap) (locs : List Loc) (ls : Array Slot), gHw X τ G H locs → lv_has ls 5 [(3, .int y3)] → K y3 → W p l e rm_X10_buys s m args below meth c H locs 1 6 Q (F0 m 62 ls [])) : ∀ (k : Nat) (x3 : Int32) (x4 : Int32) (H : Heap) (locs : List Loc) (ls : Array Slot), gHw X τ G H locs → lv_has ls 5 [(0, .ref x0), (1, .int x1), (2, .int x2), (3, .int x3), (4, .int x4)] → gOk (gIter (fun (q : Int32 × Int32) => b_X10_buys_18 τ n x0 x1 x2 q.1 q.2 G) k (x3, x4)) K → W p l e rm_X10_buys s m args below meth c H locs 1 6 Q (F0 m 18 ls []) := by
  intro k
  induction k with
  | zero =>
    intro x3 x4  H locs ls hw hl hok
    exact gOk_iter0 hok
  | succ k hc =>
    intro x3 x4  H locs ls hw hl hok
    exact w_b_X10_buys_18 fx hS hxt n x0 x1 x2 x3 x4 h0 hw hl (gOk_iter hok) hc hx0
set_option maxHeartbeats 4000000 in
set_option maxRecDepth 100000 in
theorem c_X10_buys (l : Launch) (X : gX) (τ : gτ) (n : Nat) (hS : gS0 l X) (x0 : Nat) (x1 : Int32) (G : gG) (h0 : gK τ x0 10) {r : String ⊕ Int32} {G' : gG} (h : f_X10_buys τ n x0 x1 G = some (r, G')) : gMX l X τ yX10_buys cX10_buys 5 (some .int) rm_X10_buys [.ref x0, .int x1] G (gOi r) G' := by
  refine g_bodyX (by decide +kernel) (Nat.le_of_ble_eq_true rfl) ?_
  intro p e s m args below meth c ls fx hr hxt hw hl
  have fx : gFx X p s m args meth c cX10_buys 5 RX10 := fx
  have hl : lv_has ls 5 [(0, .ref x0), (1, .int x1)] := hl
  have hok : gOk (f_X10_buys τ n x0 x1 G) (fun q => q = (r, G')) := ⟨_, h, rfl⟩
  unfold f_X10_buys at hok
  show W p l e rm_X10_buys s m args below meth c s.heap [] 0 0 (vx_MQ below (gQX X τ (gOi r) G') (gXC X τ (gOi r) G') args s rm_X10_buys.cells rm_X10_buys.slots (gFree X)) _
  refine lv_iload_n fx.1 fx.2.1 dX10_buys_0 rfl (lv_at hl 1 rfl) ?_
  refine lv_iconst (v := 0) fx.1 fx.2.1 dX10_buys_1 (by decide) ?_
  refine lv_sipush (v := 9999) fx.1 fx.2.1 dX10_buys_2 (by decide) ?_
  rcases gOk_bindX hok with ⟨E, G9, hf, hK⟩ | ⟨u, G1, hf, hok⟩
  · have hK : (Sum.inl E, G9) = (r, G') := hK
    cases hK
    refine g_callSX (As := [.int x1, .int (0 : Int32), .int (9999 : Int32)]) fx hw hxt (c_X10_needWithin l X τ hS x1 (0 : Int32) (9999 : Int32) G  hf) ls_RX10_224 rfl hl.1 rfl ⟨Nat.le_of_ble_eq_true rfl, Nat.le_of_ble_eq_true rfl⟩ (Nat.le_of_ble_eq_true rfl) ⟨Nat.le_of_ble_eq_true rfl, Nat.le_of_ble_eq_true rfl⟩ ⟨Nat.le_of_ble_eq_true rfl, Nat.le_of_ble_eq_true rfl⟩ dX10_buys_5 (fun u H locs hv hw => ?_) (fun E9 hE => ?_)
    · have hv : (Sum.inl E : String ⊕ Option Value) = Sum.inr u := hv
      cases hv
    · have hE : (Sum.inl E : String ⊕ Option Value) = Sum.inl E9 := hE
      cases hE
      exact ⟨rfl, rfl⟩
  refine g_callSX (As := [.int x1, .int (0 : Int32), .int (9999 : Int32)]) fx hw hxt (c_X10_needWithin l X τ hS x1 (0 : Int32) (9999 : Int32) G  hf) ls_RX10_224 rfl hl.1 rfl ⟨Nat.le_of_ble_eq_true rfl, Nat.le_of_ble_eq_true rfl⟩ (Nat.le_of_ble_eq_true rfl) ⟨Nat.le_of_ble_eq_true rfl, Nat.le_of_ble_eq_true rfl⟩ ⟨Nat.le_of_ble_eq_true rfl, Nat.le_of_ble_eq_true rfl⟩ dX10_buys_5 (fun u9 H locs hv hw => ?_) (fun E9 hE => by have hE : (Sum.inr none : String ⊕ Option Value) = Sum.inl E9 := hE; cases hE)
  have hv : (Sum.inr none : String ⊕ Option Value) = Sum.inr u9 := hv
  cases hv
  refine lv_aload_n fx.1 fx.2.1 dX10_buys_8 rfl (lv_at hl 0 rfl) ?_
  obtain ⟨v2, G3, hf, hok⟩ := gOk_bind2 hok
  refine g_callV0 (κ := 10) fx hw (c_X10_sumBearings l X τ n x0 G1 h0 hf) lv_RX10_394 ⟨rfl, rfl⟩ rfl rfl h0 rfl hl.1 rfl ⟨Nat.le_of_ble_eq_true rfl, Nat.le_of_ble_eq_true rfl⟩ (Nat.le_of_ble_eq_true rfl) ⟨Nat.le_of_ble_eq_true rfl, Nat.le_of_ble_eq_true rfl⟩ dX10_buys_9 (fun H locs hw => ?_)
  refine lv_istore_n (lv' := [(2, .int v2), (0, .ref x0), (1, .int x1)]) fx.1 fx.2.1 dX10_buys_12 rfl hl (by decide) rfl (fun ls hl => ?_)
  refine lv_iconst (v := 0) fx.1 fx.2.1 dX10_buys_13 (by decide) ?_
  refine lv_istore_n (lv' := [(3, .int (0 : Int32)), (2, .int v2), (0, .ref x0), (1, .int x1)]) fx.1 fx.2.1 dX10_buys_14 rfl hl (by decide) rfl (fun ls hl => ?_)
  refine lv_iconst (v := 1) fx.1 fx.2.1 dX10_buys_15 (by decide) ?_
  refine lv_istore (lv' := [(4, .int (1 : Int32)), (3, .int (0 : Int32)), (2, .int v2), (0, .ref x0), (1, .int x1)]) fx.1 fx.2.1 dX10_buys_16 hl (by decide) rfl (fun ls hl => ?_)
  refine w_l_X10_buys_18 fx hS hxt n x0 x1 v2 h0 G3 ?_ n (0 : Int32) (1 : Int32)  _ _ _  hw (lv_sub hl [3, 4, 2, 1, 0] rfl) (gOk_bindK hok)
  intro z11  H locs ls hw hl hok
  have hok : gOk (ρ := (String ⊕ Int32) × gG) (some (.inr z11, G3)) _ := hok
  refine lv_iload_n fx.1 fx.2.1 dX10_buys_62 rfl (lv_at hl 0 rfl) ?_
  cases gOk_some hok
  exact g_iretX fx hw hr ⟨Nat.le_of_ble_eq_true rfl, Nat.le_of_ble_eq_true rfl⟩ dX10_buys_63
theorem dX10_skips_0 : decode cX10_skips 0 = .ok (.iconst 0, 1) := by decide +kernel
theorem dX10_skips_1 : decode cX10_skips 1 = .ok (.istore_n 1, 1) := by decide +kernel
theorem dX10_skips_2 : decode cX10_skips 2 = .ok (.iconst 0, 1) := by decide +kernel
theorem dX10_skips_3 : decode cX10_skips 3 = .ok (.istore_n 2, 1) := by decide +kernel
theorem dX10_skips_4 : decode cX10_skips 4 = .ok (.iload_n 2, 1) := by decide +kernel
theorem dX10_skips_5 : decode cX10_skips 5 = .ok (.aload_n 0, 1) := by decide +kernel
theorem dX10_skips_6 : decode cX10_skips 6 = .ok (.getfield 70, 3) := by decide +kernel
theorem dX10_skips_9 : decode cX10_skips 9 = .ok (.getfield 286, 3) := by decide +kernel
theorem dX10_skips_12 : decode cX10_skips 12 = .ok (.if_icmp .ge 48, 3) := by decide +kernel
theorem dX10_skips_15 : decode cX10_skips 15 = .ok (.aload_n 0, 1) := by decide +kernel
theorem dX10_skips_16 : decode cX10_skips 16 = .ok (.getfield 70, 3) := by decide +kernel
theorem dX10_skips_19 : decode cX10_skips 19 = .ok (.getfield 325, 3) := by decide +kernel
theorem dX10_skips_22 : decode cX10_skips 22 = .ok (.iload_n 2, 1) := by decide +kernel
theorem dX10_skips_23 : decode cX10_skips 23 = .ok (.aaload, 1) := by decide +kernel
theorem dX10_skips_24 : decode cX10_skips 24 = .ok (.astore_n 3, 1) := by decide +kernel
theorem dX10_skips_25 : decode cX10_skips 25 = .ok (.aload_n 3, 1) := by decide +kernel
theorem dX10_skips_26 : decode cX10_skips 26 = .ok (.invokevirtual 268, 3) := by decide +kernel
theorem dX10_skips_29 : decode cX10_skips 29 = .ok (.ifCond .eq 25, 3) := by decide +kernel
theorem dX10_skips_32 : decode cX10_skips 32 = .ok (.aload_n 3, 1) := by decide +kernel
theorem dX10_skips_33 : decode cX10_skips 33 = .ok (.getfield 169, 3) := by decide +kernel
theorem dX10_skips_36 : decode cX10_skips 36 = .ok (.iconst 2, 1) := by decide +kernel
theorem dX10_skips_37 : decode cX10_skips 37 = .ok (.if_icmp .lt 17, 3) := by decide +kernel
theorem dX10_skips_40 : decode cX10_skips 40 = .ok (.aload_n 3, 1) := by decide +kernel
theorem dX10_skips_41 : decode cX10_skips 41 = .ok (.getfield 169, 3) := by decide +kernel
theorem dX10_skips_44 : decode cX10_skips 44 = .ok (.iconst 5, 1) := by decide +kernel
theorem dX10_skips_45 : decode cX10_skips 45 = .ok (.if_icmp .gt 9, 3) := by decide +kernel
theorem dX10_skips_48 : decode cX10_skips 48 = .ok (.iload_n 1, 1) := by decide +kernel
theorem dX10_skips_49 : decode cX10_skips 49 = .ok (.iconst 1, 1) := by decide +kernel
theorem dX10_skips_50 : decode cX10_skips 50 = .ok (.iload_n 2, 1) := by decide +kernel
theorem dX10_skips_51 : decode cX10_skips 51 = .ok (.ishl, 1) := by decide +kernel
theorem dX10_skips_52 : decode cX10_skips 52 = .ok (.ior, 1) := by decide +kernel
theorem dX10_skips_53 : decode cX10_skips 53 = .ok (.istore_n 1, 1) := by decide +kernel
theorem dX10_skips_54 : decode cX10_skips 54 = .ok (.iinc 2 1, 3) := by decide +kernel
theorem dX10_skips_57 : decode cX10_skips 57 = .ok (.goto (-53), 3) := by decide +kernel
theorem dX10_skips_60 : decode cX10_skips 60 = .ok (.iload_n 1, 1) := by decide +kernel
theorem dX10_skips_61 : decode cX10_skips 61 = .ok (.ireturn, 1) := by decide +kernel
def rm_X10_skips : Room := { frames := 1, cells := 0, slots := 0, locals := 20 }
def b_X10_skips_4 (τ : gτ) (n : Nat) (x0 : Nat) (x1 : Int32) (x2 : Int32) (G : gG) : Option ((Int32 × Int32) ⊕ ((Int32))) :=
  (gr G 10 10 x0).bind fun a1 =>
  if (gi G 6 5 a1) ≤ x2 then (some (.inr x1))
  else ((gr G 10 10 x0).bind fun a2 =>
  (gr G 6 1 a2).bind fun a3 =>
  gchk (gIn x2 (gn τ a3)) <| (gq G a3 (Int32.toNatClampNeg x2)).bind fun a4 =>
  (f_X5_isFree a4 G).bind fun v5 =>
  if v5 = 0 then (gLet (x2 + 1) fun v6 =>
  some (.inl (x1, v6)))
  else (if (gi G 5 3 a4) < (2 : Int32) then (gLet (x2 + 1) fun v7 =>
  some (.inl (x1, v7)))
  else (if (5 : Int32) < (gi G 5 3 a4) then (gLet (x2 + 1) fun v8 =>
  some (.inl (x1, v8)))
  else (gLet (x1 ||| ((1 : Int32) <<< (x2 &&& 31))) fun v9 =>
  gLet (x2 + 1) fun v10 =>
  some (.inl (v9, v10))))))
def l_X10_skips_4 (τ : gτ) (n : Nat) (x0 : Nat) (x1 : Int32) (x2 : Int32) (G : gG) : Option ((Int32)) :=
  gIter (fun (q : Int32 × Int32) => b_X10_skips_4 τ n x0 q.1 q.2 G) n (x1, x2)
def f_X10_skips (τ : gτ) (n : Nat) (x0 : Nat) (G : gG) : Option (Int32) :=
  (l_X10_skips_4 τ n x0 (0 : Int32) (0 : Int32) G).bind fun q => gLet q fun z11 => 
  some (z11)
set_option maxHeartbeats 4000000 in
set_option maxRecDepth 100000 in
theorem w_b_X10_skips_4 {X : gX} {τ : gτ} {p : Program} {l : Launch} {e : Env} {s : State} {m : MethodId} {args : Array Value} {below : List Frame} {meth : Method} {c : Code} (fx : gFx X p s m args meth c cX10_skips 4 RX10) (n : Nat) (x0 : Nat) (x1 : Int32) (x2 : Int32) (h0 : gK τ x0 10) {Q : State → Prop} {K : ((Int32 × Int32) ⊕ ((Int32))) → Prop} {G : gG} {H : Heap} {locs : List Loc} {ls : Array Slot} (hw : gHw X τ G H locs) (hl : lv_has ls 4 [(0, .ref x0), (1, .int x1), (2, .int x2)]) (hok : gOk (b_X10_skips_4 τ n x0 x1 x2 G) K) (hc : ∀ (y1 : Int32) (y2 : Int32) (H : Heap) (locs : List Loc) (ls : Array Slot), gHw X τ G H locs → lv_has ls 4 [(0, .ref x0), (1, .int y1), (2, .int y2)] → K (.inl (y1, y2)) → W p l e rm_X10_skips s m args below meth c H locs 0 0 Q (F0 m 4 ls [])) (hx0 : ∀ (y1 : Int32) (H : Heap) (locs : List Loc) (ls : Array Slot), gHw X τ G H locs → lv_has ls 4 [(1, .int y1)] → K (.inr y1) → W p l e rm_X10_skips s m args below meth c H locs 0 0 Q (F0 m 60 ls [])) : W p l e rm_X10_skips s m args below meth c H locs 0 0 Q (F0 m 4 ls []) := by
  unfold b_X10_skips_4 at hok
  refine lv_iload_n fx.1 fx.2.1 dX10_skips_4 rfl (lv_at hl 2 rfl) ?_
  refine lv_aload_n fx.1 fx.2.1 dX10_skips_5 rfl (lv_at hl 0 rfl) ?_
  refine g_getr fx hw h0 lf_RX10_70 rfl dX10_skips_6 hok (fun a1 h_a1 hok => ?_)
  refine g_geti fx hw h_a1 lf_RX10_286 rfl dX10_skips_9 ?_
  refine g_icmp_ge (tgt := 60) fx dX10_skips_12 (by decide) hok (fun hok => ?_) (fun hok => ?_)
  · exact hx0 x1  _ _ _  hw (lv_sub hl [1] rfl) (gOk_some hok)
  · refine lv_aload_n fx.1 fx.2.1 dX10_skips_15 rfl (lv_at hl 0 rfl) ?_
    refine g_getr fx hw h0 lf_RX10_70 rfl dX10_skips_16 hok (fun a2 h_a2 hok => ?_)
    refine g_getr fx hw h_a2 lf_RX10_325 rfl dX10_skips_19 hok (fun a3 h_a3 hok => ?_)
    refine lv_iload_n fx.1 fx.2.1 dX10_skips_22 rfl (lv_at hl 2 rfl) ?_
    refine g_aald fx hw 15 3 h_a3 (by decide) (by decide) rfl (κ' := 5) rfl dX10_skips_23 hok (fun a4 h_a4 hok => ?_)
    refine lv_astore_n (lv' := [(3, .ref a4), (0, .ref x0), (1, .int x1), (2, .int x2)]) fx.1 fx.2.1 dX10_skips_24 rfl hl (by decide) rfl (fun ls hl => ?_)
    refine lv_aload_n fx.1 fx.2.1 dX10_skips_25 rfl (lv_at hl 0 rfl) ?_
    obtain ⟨v5, hf, hok⟩ := gOk_bind hok
    refine g_callV0 (κ := 5) fx hw (c_X5_isFree l X τ a4 G h_a4 hf) lv_RX10_268 ⟨rfl, rfl⟩ rfl rfl h_a4 rfl hl.1 rfl ⟨Nat.le_of_ble_eq_true rfl, Nat.le_of_ble_eq_true rfl⟩ (Nat.le_of_ble_eq_true rfl) ⟨Nat.le_of_ble_eq_true rfl, Nat.le_of_ble_eq_true rfl⟩ dX10_skips_26 (fun H locs hw => ?_)
    refine g_if_eq (tgt := 54) fx dX10_skips_29 (by decide) hok (fun hok => ?_) (fun hok => ?_)
    · obtain ⟨v6, e_v6, hok⟩ := gOk_let hok
      refine lv_iinc (v := v6) (lv' := [(2, .int v6), (3, .ref a4), (0, .ref x0), (1, .int x1)]) fx.1 fx.2.1 dX10_skips_54 hl (k := 3) rfl (by rw [e_v6]; rfl) (by decide) rfl (fun ls hl => ?_)
      refine lv_goto (tgt := 4) fx.1 fx.2.1 dX10_skips_57 (by decide) ?_
      exact hc x1 v6  _ _ _  hw (lv_sub hl [2, 3, 0] rfl) (gOk_some hok)
    · refine lv_aload_n fx.1 fx.2.1 dX10_skips_32 rfl (lv_at hl 0 rfl) ?_
      refine g_geti fx hw h_a4 lf_RX10_169 rfl dX10_skips_33 ?_
      refine lv_iconst (v := 2) fx.1 fx.2.1 dX10_skips_36 (by decide) ?_
      refine g_icmp_lt (tgt := 54) fx dX10_skips_37 (by decide) hok (fun hok => ?_) (fun hok => ?_)
      · obtain ⟨v7, e_v7, hok⟩ := gOk_let hok
        refine lv_iinc (v := v7) (lv' := [(2, .int v7), (3, .ref a4), (0, .ref x0), (1, .int x1)]) fx.1 fx.2.1 dX10_skips_54 hl (k := 3) rfl (by rw [e_v7]; rfl) (by decide) rfl (fun ls hl => ?_)
        refine lv_goto (tgt := 4) fx.1 fx.2.1 dX10_skips_57 (by decide) ?_
        exact hc x1 v7  _ _ _  hw (lv_sub hl [2, 3, 0] rfl) (gOk_some hok)
      · refine lv_aload_n fx.1 fx.2.1 dX10_skips_40 rfl (lv_at hl 0 rfl) ?_
        refine g_geti fx hw h_a4 lf_RX10_169 rfl dX10_skips_41 ?_
        refine lv_iconst (v := 5) fx.1 fx.2.1 dX10_skips_44 (by decide) ?_
        refine g_icmp_gt (tgt := 54) fx dX10_skips_45 (by decide) hok (fun hok => ?_) (fun hok => ?_)
        · obtain ⟨v8, e_v8, hok⟩ := gOk_let hok
          refine lv_iinc (v := v8) (lv' := [(2, .int v8), (3, .ref a4), (0, .ref x0), (1, .int x1)]) fx.1 fx.2.1 dX10_skips_54 hl (k := 3) rfl (by rw [e_v8]; rfl) (by decide) rfl (fun ls hl => ?_)
          refine lv_goto (tgt := 4) fx.1 fx.2.1 dX10_skips_57 (by decide) ?_
          exact hc x1 v8  _ _ _  hw (lv_sub hl [2, 3, 0] rfl) (gOk_some hok)
        · refine lv_iload_n fx.1 fx.2.1 dX10_skips_48 rfl (lv_at hl 2 rfl) ?_
          refine lv_iconst (v := 1) fx.1 fx.2.1 dX10_skips_49 (by decide) ?_
          refine lv_iload_n fx.1 fx.2.1 dX10_skips_50 rfl (lv_at hl 3 rfl) ?_
          refine lv_ishl fx.1 fx.2.1 dX10_skips_51 ?_
          refine lv_ior fx.1 fx.2.1 dX10_skips_52 ?_
          refine g_leti hok (fun v9 hok => ?_)
          refine lv_istore_n (lv' := [(1, .int v9), (3, .ref a4), (0, .ref x0), (2, .int x2)]) fx.1 fx.2.1 dX10_skips_53 rfl hl (by decide) rfl (fun ls hl => ?_)
          obtain ⟨v10, e_v10, hok⟩ := gOk_let hok
          refine lv_iinc (v := v10) (lv' := [(2, .int v10), (1, .int v9), (3, .ref a4), (0, .ref x0)]) fx.1 fx.2.1 dX10_skips_54 hl (k := 3) rfl (by rw [e_v10]; rfl) (by decide) rfl (fun ls hl => ?_)
          refine lv_goto (tgt := 4) fx.1 fx.2.1 dX10_skips_57 (by decide) ?_
          exact hc v9 v10  _ _ _  hw (lv_sub hl [3, 1, 0] rfl) (gOk_some hok)
theorem w_l_X10_skips_4 {X : gX} {τ : gτ} {p : Program} {l : Launch} {e : Env} {s : State} {m : MethodId} {args : Array Value} {below : List Frame} {meth : Method} {c : Code} (fx : gFx X p s m args meth c cX10_skips 4 RX10) (n : Nat) (x0 : Nat) (h0 : gK τ x0 10) (G : gG) {Q : State → Prop} {K : ((Int32)) → Prop} (hx0 : ∀ (y1 : Int32) (H : Heap) (locs : List Loc) (ls : Array Slot), gHw X τ G H locs → lv_has ls 4 [(1, .int y1)] → K y1 → W p l e rm_X10_skips s m args below meth c H locs 0 0 Q (F0 m 60 ls [])) : ∀ (k : Nat) (x1 : Int32) (x2 : Int32) (H : Heap) (locs : List Loc) (ls : Array Slot), gHw X τ G H locs → lv_has ls 4 [(0, .ref x0), (1, .int x1), (2, .int x2)] → gOk (gIter (fun (q : Int32 × Int32) => b_X10_skips_4 τ n x0 q.1 q.2 G) k (x1, x2)) K → W p l e rm_X10_skips s m args below meth c H locs 0 0 Q (F0 m 4 ls []) := by
  intro k
  induction k with
  | zero =>
    intro x1 x2  H locs ls hw hl hok
    exact gOk_iter0 hok
  | succ k hc =>
    intro x1 x2  H locs ls hw hl hok
    exact w_b_X10_skips_4 fx n x0 x1 x2 h0 hw hl (gOk_iter hok) hc hx0
set_option maxHeartbeats 4000000 in
set_option maxRecDepth 100000 in
theorem c_X10_skips (l : Launch) (X : gX) (τ : gτ) (n : Nat) (x0 : Nat) (G : gG) (h0 : gK τ x0 10) {r : Int32}  (h : f_X10_skips τ n x0 G = some r) : gM l X τ yX10_skips cX10_skips 4 (some .int) rm_X10_skips [.ref x0] G (some (.int r)) G := by
  refine g_body (by decide +kernel) (Nat.le_of_ble_eq_true rfl) ?_
  intro p e s m args below meth c ls fx hr hw hl
  have fx : gFx X p s m args meth c cX10_skips 4 RX10 := fx
  have hl : lv_has ls 4 [(0, .ref x0)] := hl
  have hok : gOk (f_X10_skips τ n x0 G) (fun q => q = r) := ⟨_, h, rfl⟩
  unfold f_X10_skips at hok
  show W p l e rm_X10_skips s m args below meth c s.heap [] 0 0 (MQ below (gQ X τ (some (.int r)) G) args s 0 0 (gFree X)) _
  refine lv_iconst (v := 0) fx.1 fx.2.1 dX10_skips_0 (by decide) ?_
  refine lv_istore_n (lv' := [(1, .int (0 : Int32)), (0, .ref x0)]) fx.1 fx.2.1 dX10_skips_1 rfl hl (by decide) rfl (fun ls hl => ?_)
  refine lv_iconst (v := 0) fx.1 fx.2.1 dX10_skips_2 (by decide) ?_
  refine lv_istore_n (lv' := [(2, .int (0 : Int32)), (1, .int (0 : Int32)), (0, .ref x0)]) fx.1 fx.2.1 dX10_skips_3 rfl hl (by decide) rfl (fun ls hl => ?_)
  refine w_l_X10_skips_4 fx n x0 h0 G ?_ n (0 : Int32) (0 : Int32)  _ _ _  hw (lv_sub hl [2, 1, 0] rfl) (gOk_bindK hok)
  intro z11  H locs ls hw hl hok
  have hok : gOk (ρ := Int32) (some (z11)) _ := hok
  refine lv_iload_n fx.1 fx.2.1 dX10_skips_60 rfl (lv_at hl 0 rfl) ?_
  cases gOk_some hok
  exact g_iret fx hw hr dX10_skips_61
theorem dX10_loose_0 : decode cX10_loose 0 = .ok (.iconst 0, 1) := by decide +kernel
theorem dX10_loose_1 : decode cX10_loose 1 = .ok (.istore_n 1, 1) := by decide +kernel
theorem dX10_loose_2 : decode cX10_loose 2 = .ok (.iconst 0, 1) := by decide +kernel
theorem dX10_loose_3 : decode cX10_loose 3 = .ok (.istore_n 2, 1) := by decide +kernel
theorem dX10_loose_4 : decode cX10_loose 4 = .ok (.iload_n 2, 1) := by decide +kernel
theorem dX10_loose_5 : decode cX10_loose 5 = .ok (.aload_n 0, 1) := by decide +kernel
theorem dX10_loose_6 : decode cX10_loose 6 = .ok (.getfield 70, 3) := by decide +kernel
theorem dX10_loose_9 : decode cX10_loose 9 = .ok (.getfield 286, 3) := by decide +kernel
theorem dX10_loose_12 : decode cX10_loose 12 = .ok (.if_icmp .ge 39, 3) := by decide +kernel
theorem dX10_loose_15 : decode cX10_loose 15 = .ok (.aload_n 0, 1) := by decide +kernel
theorem dX10_loose_16 : decode cX10_loose 16 = .ok (.getfield 70, 3) := by decide +kernel
theorem dX10_loose_19 : decode cX10_loose 19 = .ok (.getfield 325, 3) := by decide +kernel
theorem dX10_loose_22 : decode cX10_loose 22 = .ok (.iload_n 2, 1) := by decide +kernel
theorem dX10_loose_23 : decode cX10_loose 23 = .ok (.aaload, 1) := by decide +kernel
theorem dX10_loose_24 : decode cX10_loose 24 = .ok (.astore_n 3, 1) := by decide +kernel
theorem dX10_loose_25 : decode cX10_loose 25 = .ok (.aload_n 3, 1) := by decide +kernel
theorem dX10_loose_26 : decode cX10_loose 26 = .ok (.getfield 185, 3) := by decide +kernel
theorem dX10_loose_29 : decode cX10_loose 29 = .ok (.ifCond .ne 16, 3) := by decide +kernel
theorem dX10_loose_32 : decode cX10_loose 32 = .ok (.aload_n 3, 1) := by decide +kernel
theorem dX10_loose_33 : decode cX10_loose 33 = .ok (.getfield 178, 3) := by decide +kernel
theorem dX10_loose_36 : decode cX10_loose 36 = .ok (.ifCond .ne 9, 3) := by decide +kernel
theorem dX10_loose_39 : decode cX10_loose 39 = .ok (.iload_n 1, 1) := by decide +kernel
theorem dX10_loose_40 : decode cX10_loose 40 = .ok (.iconst 1, 1) := by decide +kernel
theorem dX10_loose_41 : decode cX10_loose 41 = .ok (.iload_n 2, 1) := by decide +kernel
theorem dX10_loose_42 : decode cX10_loose 42 = .ok (.ishl, 1) := by decide +kernel
theorem dX10_loose_43 : decode cX10_loose 43 = .ok (.ior, 1) := by decide +kernel
theorem dX10_loose_44 : decode cX10_loose 44 = .ok (.istore_n 1, 1) := by decide +kernel
theorem dX10_loose_45 : decode cX10_loose 45 = .ok (.iinc 2 1, 3) := by decide +kernel
theorem dX10_loose_48 : decode cX10_loose 48 = .ok (.goto (-44), 3) := by decide +kernel
theorem dX10_loose_51 : decode cX10_loose 51 = .ok (.iload_n 1, 1) := by decide +kernel
theorem dX10_loose_52 : decode cX10_loose 52 = .ok (.ireturn, 1) := by decide +kernel
def rm_X10_loose : Room := { frames := 0, cells := 0, slots := 0, locals := 0 }
def b_X10_loose_4 (τ : gτ) (n : Nat) (x0 : Nat) (x1 : Int32) (x2 : Int32) (G : gG) : Option ((Int32 × Int32) ⊕ ((Int32))) :=
  (gr G 10 10 x0).bind fun a1 =>
  if (gi G 6 5 a1) ≤ x2 then (some (.inr x1))
  else ((gr G 10 10 x0).bind fun a2 =>
  (gr G 6 1 a2).bind fun a3 =>
  gchk (gIn x2 (gn τ a3)) <| (gq G a3 (Int32.toNatClampNeg x2)).bind fun a4 =>
  if (gi G 5 9 a4) = 0 then (if (gi G 5 8 a4) = 0 then (gLet (x1 ||| ((1 : Int32) <<< (x2 &&& 31))) fun v5 =>
  gLet (x2 + 1) fun v6 =>
  some (.inl (v5, v6)))
  else (gLet (x2 + 1) fun v7 =>
  some (.inl (x1, v7))))
  else (gLet (x2 + 1) fun v8 =>
  some (.inl (x1, v8))))
def l_X10_loose_4 (τ : gτ) (n : Nat) (x0 : Nat) (x1 : Int32) (x2 : Int32) (G : gG) : Option ((Int32)) :=
  gIter (fun (q : Int32 × Int32) => b_X10_loose_4 τ n x0 q.1 q.2 G) n (x1, x2)
def f_X10_loose (τ : gτ) (n : Nat) (x0 : Nat) (G : gG) : Option (Int32) :=
  (l_X10_loose_4 τ n x0 (0 : Int32) (0 : Int32) G).bind fun q => gLet q fun z9 => 
  some (z9)
set_option maxHeartbeats 4000000 in
set_option maxRecDepth 100000 in
theorem w_b_X10_loose_4 {X : gX} {τ : gτ} {p : Program} {l : Launch} {e : Env} {s : State} {m : MethodId} {args : Array Value} {below : List Frame} {meth : Method} {c : Code} (fx : gFx X p s m args meth c cX10_loose 4 RX10) (n : Nat) (x0 : Nat) (x1 : Int32) (x2 : Int32) (h0 : gK τ x0 10) {Q : State → Prop} {K : ((Int32 × Int32) ⊕ ((Int32))) → Prop} {G : gG} {H : Heap} {locs : List Loc} {ls : Array Slot} (hw : gHw X τ G H locs) (hl : lv_has ls 4 [(0, .ref x0), (1, .int x1), (2, .int x2)]) (hok : gOk (b_X10_loose_4 τ n x0 x1 x2 G) K) (hc : ∀ (y1 : Int32) (y2 : Int32) (H : Heap) (locs : List Loc) (ls : Array Slot), gHw X τ G H locs → lv_has ls 4 [(0, .ref x0), (1, .int y1), (2, .int y2)] → K (.inl (y1, y2)) → W p l e rm_X10_loose s m args below meth c H locs 0 0 Q (F0 m 4 ls [])) (hx0 : ∀ (y1 : Int32) (H : Heap) (locs : List Loc) (ls : Array Slot), gHw X τ G H locs → lv_has ls 4 [(1, .int y1)] → K (.inr y1) → W p l e rm_X10_loose s m args below meth c H locs 0 0 Q (F0 m 51 ls [])) : W p l e rm_X10_loose s m args below meth c H locs 0 0 Q (F0 m 4 ls []) := by
  unfold b_X10_loose_4 at hok
  refine lv_iload_n fx.1 fx.2.1 dX10_loose_4 rfl (lv_at hl 2 rfl) ?_
  refine lv_aload_n fx.1 fx.2.1 dX10_loose_5 rfl (lv_at hl 0 rfl) ?_
  refine g_getr fx hw h0 lf_RX10_70 rfl dX10_loose_6 hok (fun a1 h_a1 hok => ?_)
  refine g_geti fx hw h_a1 lf_RX10_286 rfl dX10_loose_9 ?_
  refine g_icmp_ge (tgt := 51) fx dX10_loose_12 (by decide) hok (fun hok => ?_) (fun hok => ?_)
  · exact hx0 x1  _ _ _  hw (lv_sub hl [1] rfl) (gOk_some hok)
  · refine lv_aload_n fx.1 fx.2.1 dX10_loose_15 rfl (lv_at hl 0 rfl) ?_
    refine g_getr fx hw h0 lf_RX10_70 rfl dX10_loose_16 hok (fun a2 h_a2 hok => ?_)
    refine g_getr fx hw h_a2 lf_RX10_325 rfl dX10_loose_19 hok (fun a3 h_a3 hok => ?_)
    refine lv_iload_n fx.1 fx.2.1 dX10_loose_22 rfl (lv_at hl 2 rfl) ?_
    refine g_aald fx hw 15 3 h_a3 (by decide) (by decide) rfl (κ' := 5) rfl dX10_loose_23 hok (fun a4 h_a4 hok => ?_)
    refine lv_astore_n (lv' := [(3, .ref a4), (0, .ref x0), (1, .int x1), (2, .int x2)]) fx.1 fx.2.1 dX10_loose_24 rfl hl (by decide) rfl (fun ls hl => ?_)
    refine lv_aload_n fx.1 fx.2.1 dX10_loose_25 rfl (lv_at hl 0 rfl) ?_
    refine g_geti fx hw h_a4 lf_RX10_185 rfl dX10_loose_26 ?_
    refine g_if_ne (tgt := 45) fx dX10_loose_29 (by decide) hok (fun hok => ?_) (fun hok => ?_)
    · refine lv_aload_n fx.1 fx.2.1 dX10_loose_32 rfl (lv_at hl 0 rfl) ?_
      refine g_geti fx hw h_a4 lf_RX10_178 rfl dX10_loose_33 ?_
      refine g_if_ne (tgt := 45) fx dX10_loose_36 (by decide) hok (fun hok => ?_) (fun hok => ?_)
      · refine lv_iload_n fx.1 fx.2.1 dX10_loose_39 rfl (lv_at hl 2 rfl) ?_
        refine lv_iconst (v := 1) fx.1 fx.2.1 dX10_loose_40 (by decide) ?_
        refine lv_iload_n fx.1 fx.2.1 dX10_loose_41 rfl (lv_at hl 3 rfl) ?_
        refine lv_ishl fx.1 fx.2.1 dX10_loose_42 ?_
        refine lv_ior fx.1 fx.2.1 dX10_loose_43 ?_
        refine g_leti hok (fun v5 hok => ?_)
        refine lv_istore_n (lv' := [(1, .int v5), (3, .ref a4), (0, .ref x0), (2, .int x2)]) fx.1 fx.2.1 dX10_loose_44 rfl hl (by decide) rfl (fun ls hl => ?_)
        obtain ⟨v6, e_v6, hok⟩ := gOk_let hok
        refine lv_iinc (v := v6) (lv' := [(2, .int v6), (1, .int v5), (3, .ref a4), (0, .ref x0)]) fx.1 fx.2.1 dX10_loose_45 hl (k := 3) rfl (by rw [e_v6]; rfl) (by decide) rfl (fun ls hl => ?_)
        refine lv_goto (tgt := 4) fx.1 fx.2.1 dX10_loose_48 (by decide) ?_
        exact hc v5 v6  _ _ _  hw (lv_sub hl [3, 1, 0] rfl) (gOk_some hok)
      · obtain ⟨v7, e_v7, hok⟩ := gOk_let hok
        refine lv_iinc (v := v7) (lv' := [(2, .int v7), (3, .ref a4), (0, .ref x0), (1, .int x1)]) fx.1 fx.2.1 dX10_loose_45 hl (k := 3) rfl (by rw [e_v7]; rfl) (by decide) rfl (fun ls hl => ?_)
        refine lv_goto (tgt := 4) fx.1 fx.2.1 dX10_loose_48 (by decide) ?_
        exact hc x1 v7  _ _ _  hw (lv_sub hl [2, 3, 0] rfl) (gOk_some hok)
    · obtain ⟨v8, e_v8, hok⟩ := gOk_let hok
      refine lv_iinc (v := v8) (lv' := [(2, .int v8), (3, .ref a4), (0, .ref x0), (1, .int x1)]) fx.1 fx.2.1 dX10_loose_45 hl (k := 3) rfl (by rw [e_v8]; rfl) (by decide) rfl (fun ls hl => ?_)
      refine lv_goto (tgt := 4) fx.1 fx.2.1 dX10_loose_48 (by decide) ?_
      exact hc x1 v8  _ _ _  hw (lv_sub hl [2, 3, 0] rfl) (gOk_some hok)
theorem w_l_X10_loose_4 {X : gX} {τ : gτ} {p : Program} {l : Launch} {e : Env} {s : State} {m : MethodId} {args : Array Value} {below : List Frame} {meth : Method} {c : Code} (fx : gFx X p s m args meth c cX10_loose 4 RX10) (n : Nat) (x0 : Nat) (h0 : gK τ x0 10) (G : gG) {Q : State → Prop} {K : ((Int32)) → Prop} (hx0 : ∀ (y1 : Int32) (H : Heap) (locs : List Loc) (ls : Array Slot), gHw X τ G H locs → lv_has ls 4 [(1, .int y1)] → K y1 → W p l e rm_X10_loose s m args below meth c H locs 0 0 Q (F0 m 51 ls [])) : ∀ (k : Nat) (x1 : Int32) (x2 : Int32) (H : Heap) (locs : List Loc) (ls : Array Slot), gHw X τ G H locs → lv_has ls 4 [(0, .ref x0), (1, .int x1), (2, .int x2)] → gOk (gIter (fun (q : Int32 × Int32) => b_X10_loose_4 τ n x0 q.1 q.2 G) k (x1, x2)) K → W p l e rm_X10_loose s m args below meth c H locs 0 0 Q (F0 m 4 ls []) := by
  intro k
  induction k with
  | zero =>
    intro x1 x2  H locs ls hw hl hok
    exact gOk_iter0 hok
  | succ k hc =>
    intro x1 x2  H locs ls hw hl hok
    exact w_b_X10_loose_4 fx n x0 x1 x2 h0 hw hl (gOk_iter hok) hc hx0
set_option maxHeartbeats 4000000 in
set_option maxRecDepth 100000 in
theorem c_X10_loose (l : Launch) (X : gX) (τ : gτ) (n : Nat) (x0 : Nat) (G : gG) (h0 : gK τ x0 10) {r : Int32}  (h : f_X10_loose τ n x0 G = some r) : gM l X τ yX10_loose cX10_loose 4 (some .int) rm_X10_loose [.ref x0] G (some (.int r)) G := by
  refine g_body (by decide +kernel) (Nat.le_of_ble_eq_true rfl) ?_
  intro p e s m args below meth c ls fx hr hw hl
  have fx : gFx X p s m args meth c cX10_loose 4 RX10 := fx
  have hl : lv_has ls 4 [(0, .ref x0)] := hl
  have hok : gOk (f_X10_loose τ n x0 G) (fun q => q = r) := ⟨_, h, rfl⟩
  unfold f_X10_loose at hok
  show W p l e rm_X10_loose s m args below meth c s.heap [] 0 0 (MQ below (gQ X τ (some (.int r)) G) args s 0 0 (gFree X)) _
  refine lv_iconst (v := 0) fx.1 fx.2.1 dX10_loose_0 (by decide) ?_
  refine lv_istore_n (lv' := [(1, .int (0 : Int32)), (0, .ref x0)]) fx.1 fx.2.1 dX10_loose_1 rfl hl (by decide) rfl (fun ls hl => ?_)
  refine lv_iconst (v := 0) fx.1 fx.2.1 dX10_loose_2 (by decide) ?_
  refine lv_istore_n (lv' := [(2, .int (0 : Int32)), (1, .int (0 : Int32)), (0, .ref x0)]) fx.1 fx.2.1 dX10_loose_3 rfl hl (by decide) rfl (fun ls hl => ?_)
  refine w_l_X10_loose_4 fx n x0 h0 G ?_ n (0 : Int32) (0 : Int32)  _ _ _  hw (lv_sub hl [2, 1, 0] rfl) (gOk_bindK hok)
  intro z9  H locs ls hw hl hok
  have hok : gOk (ρ := Int32) (some (z9)) _ := hok
  refine lv_iload_n fx.1 fx.2.1 dX10_loose_51 rfl (lv_at hl 0 rfl) ?_
  cases gOk_some hok
  exact g_iret fx hw hr dX10_loose_52
theorem dX10_trial_0 : decode cX10_trial 0 = .ok (.iload_n 1, 1) := by decide +kernel
theorem dX10_trial_1 : decode cX10_trial 1 = .ok (.iconst 0, 1) := by decide +kernel
theorem dX10_trial_2 : decode cX10_trial 2 = .ok (.bipush 40, 2) := by decide +kernel
theorem dX10_trial_4 : decode cX10_trial 4 = .ok (.invokestatic 224, 3) := by decide +kernel
theorem dX10_trial_7 : decode cX10_trial 7 = .ok (.aload_n 0, 1) := by decide +kernel
theorem dX10_trial_8 : decode cX10_trial 8 = .ok (.getfield 73, 3) := by decide +kernel
theorem dX10_trial_11 : decode cX10_trial 11 = .ok (.aload_n 0, 1) := by decide +kernel
theorem dX10_trial_12 : decode cX10_trial 12 = .ok (.getfield 70, 3) := by decide +kernel
theorem dX10_trial_15 : decode cX10_trial 15 = .ok (.invokevirtual 90, 3) := by decide +kernel
theorem dX10_trial_18 : decode cX10_trial 18 = .ok (.aload_n 0, 1) := by decide +kernel
theorem dX10_trial_19 : decode cX10_trial 19 = .ok (.getfield 73, 3) := by decide +kernel
theorem dX10_trial_22 : decode cX10_trial 22 = .ok (.iload_n 1, 1) := by decide +kernel
theorem dX10_trial_23 : decode cX10_trial 23 = .ok (.aload_n 0, 1) := by decide +kernel
theorem dX10_trial_24 : decode cX10_trial 24 = .ok (.getfield 76, 3) := by decide +kernel
theorem dX10_trial_27 : decode cX10_trial 27 = .ok (.invokevirtual 292, 3) := by decide +kernel
theorem dX10_trial_30 : decode cX10_trial 30 = .ok (.iload_n 2, 1) := by decide +kernel
theorem dX10_trial_31 : decode cX10_trial 31 = .ok (.ifCond .eq 21, 3) := by decide +kernel
theorem dX10_trial_34 : decode cX10_trial 34 = .ok (.aload_n 0, 1) := by decide +kernel
theorem dX10_trial_35 : decode cX10_trial 35 = .ok (.getfield 73, 3) := by decide +kernel
theorem dX10_trial_38 : decode cX10_trial 38 = .ok (.getfield 400, 3) := by decide +kernel
theorem dX10_trial_41 : decode cX10_trial 41 = .ok (.aload_n 0, 1) := by decide +kernel
theorem dX10_trial_42 : decode cX10_trial 42 = .ok (.getfield 70, 3) := by decide +kernel
theorem dX10_trial_45 : decode cX10_trial 45 = .ok (.getfield 400, 3) := by decide +kernel
theorem dX10_trial_48 : decode cX10_trial 48 = .ok (.isub, 1) := by decide +kernel
theorem dX10_trial_49 : decode cX10_trial 49 = .ok (.goto 10, 3) := by decide +kernel
theorem dX10_trial_52 : decode cX10_trial 52 = .ok (.aload_n 0, 1) := by decide +kernel
theorem dX10_trial_53 : decode cX10_trial 53 = .ok (.getfield 73, 3) := by decide +kernel
theorem dX10_trial_56 : decode cX10_trial 56 = .ok (.invokevirtual 391, 3) := by decide +kernel
theorem dX10_trial_59 : decode cX10_trial 59 = .ok (.ireturn, 1) := by decide +kernel
theorem lf_RX10_400 : gLf RX10 400 6 13 := ⟨(RX6, TX6, 15), rfl, by decide, wA_t (wt2 (List.mem_of_getElem? (i := 40) (by decide +kernel))) (by decide +kernel), rfl⟩
def rm_X10_trial : Room := { frames := 7, cells := 1, slots := 6, locals := 167 }
def f_X10_trial (τ : gτ) (n : Nat) (x0 : Nat) (x1 : Int32) (x2 : Int32) (G : gG) : Option ((String ⊕ Int32) × gG) :=
  gBindX (f_X10_needWithin x1 (0 : Int32) (40 : Int32) G) fun _ G1 =>
  (gr G1 10 11 x0).bind fun a2 =>
  (gr G1 10 10 x0).bind fun a3 =>
  (f_X6_become τ n a2 a3 G1).bind fun G4 =>
  (gr G4 10 11 x0).bind fun a5 =>
  (gr G4 10 12 x0).bind fun a6 =>
  (f_X6_pass τ n a5 x1 a6 G4).bind fun G7 =>
  if x2 = 0 then ((gr G7 10 11 x0).bind fun a8 =>
  (f_X6_brokenRopes τ n a8 G7).bind fun v9 =>
  some (.inr v9, G7))
  else ((gr G7 10 11 x0).bind fun a10 =>
  (gr G7 10 10 x0).bind fun a11 =>
  some (.inr ((gi G7 6 13 a10) - (gi G7 6 13 a11)), G7))
set_option maxHeartbeats 4000000 in
set_option maxRecDepth 100000 in
theorem c_X10_trial (l : Launch) (X : gX) (τ : gτ) (n : Nat) (hS : gS0 l X) (x0 : Nat) (x1 : Int32) (x2 : Int32) (G : gG) (h0 : gK τ x0 10) {r : String ⊕ Int32} {G' : gG} (h : f_X10_trial τ n x0 x1 x2 G = some (r, G')) : gMX l X τ yX10_trial cX10_trial 3 (some .int) rm_X10_trial [.ref x0, .int x1, .int x2] G (gOi r) G' := by
  refine g_bodyX (by decide +kernel) (Nat.le_of_ble_eq_true rfl) ?_
  intro p e s m args below meth c ls fx hr hxt hw hl
  have fx : gFx X p s m args meth c cX10_trial 3 RX10 := fx
  have hl : lv_has ls 3 [(0, .ref x0), (1, .int x1), (2, .int x2)] := hl
  have hok : gOk (f_X10_trial τ n x0 x1 x2 G) (fun q => q = (r, G')) := ⟨_, h, rfl⟩
  unfold f_X10_trial at hok
  show W p l e rm_X10_trial s m args below meth c s.heap [] 0 0 (vx_MQ below (gQX X τ (gOi r) G') (gXC X τ (gOi r) G') args s rm_X10_trial.cells rm_X10_trial.slots (gFree X)) _
  refine lv_iload_n fx.1 fx.2.1 dX10_trial_0 rfl (lv_at hl 1 rfl) ?_
  refine lv_iconst (v := 0) fx.1 fx.2.1 dX10_trial_1 (by decide) ?_
  refine lv_bipush (v := 40) fx.1 fx.2.1 dX10_trial_2 (by decide) ?_
  rcases gOk_bindX hok with ⟨E, G9, hf, hK⟩ | ⟨u, G1, hf, hok⟩
  · have hK : (Sum.inl E, G9) = (r, G') := hK
    cases hK
    refine g_callSX (As := [.int x1, .int (0 : Int32), .int (40 : Int32)]) fx hw hxt (c_X10_needWithin l X τ hS x1 (0 : Int32) (40 : Int32) G  hf) ls_RX10_224 rfl hl.1 rfl ⟨Nat.le_of_ble_eq_true rfl, Nat.le_of_ble_eq_true rfl⟩ (Nat.le_of_ble_eq_true rfl) ⟨Nat.le_of_ble_eq_true rfl, Nat.le_of_ble_eq_true rfl⟩ ⟨Nat.le_of_ble_eq_true rfl, Nat.le_of_ble_eq_true rfl⟩ dX10_trial_4 (fun u H locs hv hw => ?_) (fun E9 hE => ?_)
    · have hv : (Sum.inl E : String ⊕ Option Value) = Sum.inr u := hv
      cases hv
    · have hE : (Sum.inl E : String ⊕ Option Value) = Sum.inl E9 := hE
      cases hE
      exact ⟨rfl, rfl⟩
  refine g_callSX (As := [.int x1, .int (0 : Int32), .int (40 : Int32)]) fx hw hxt (c_X10_needWithin l X τ hS x1 (0 : Int32) (40 : Int32) G  hf) ls_RX10_224 rfl hl.1 rfl ⟨Nat.le_of_ble_eq_true rfl, Nat.le_of_ble_eq_true rfl⟩ (Nat.le_of_ble_eq_true rfl) ⟨Nat.le_of_ble_eq_true rfl, Nat.le_of_ble_eq_true rfl⟩ ⟨Nat.le_of_ble_eq_true rfl, Nat.le_of_ble_eq_true rfl⟩ dX10_trial_4 (fun u9 H locs hv hw => ?_) (fun E9 hE => by have hE : (Sum.inr none : String ⊕ Option Value) = Sum.inl E9 := hE; cases hE)
  have hv : (Sum.inr none : String ⊕ Option Value) = Sum.inr u9 := hv
  cases hv
  refine lv_aload_n fx.1 fx.2.1 dX10_trial_7 rfl (lv_at hl 0 rfl) ?_
  refine g_getr fx hw h0 lf_RX10_73 rfl dX10_trial_8 hok (fun a2 h_a2 hok => ?_)
  refine lv_aload_n fx.1 fx.2.1 dX10_trial_11 rfl (lv_at hl 0 rfl) ?_
  refine g_getr fx hw h0 lf_RX10_70 rfl dX10_trial_12 hok (fun a3 h_a3 hok => ?_)
  obtain ⟨G4, hf, hok⟩ := gOk_bind hok
  refine g_callV0 (κ := 6) fx hw (c_X6_become l X τ n a2 a3 G1 h_a2 h_a3 hf) lv_RX10_90 ⟨rfl, rfl⟩ rfl rfl h_a2 rfl hl.1 rfl ⟨Nat.le_of_ble_eq_true rfl, Nat.le_of_ble_eq_true rfl⟩ (Nat.le_of_ble_eq_true rfl) ⟨Nat.le_of_ble_eq_true rfl, Nat.le_of_ble_eq_true rfl⟩ dX10_trial_15 (fun H locs hw => ?_)
  refine lv_aload_n fx.1 fx.2.1 dX10_trial_18 rfl (lv_at hl 0 rfl) ?_
  refine g_getr fx hw h0 lf_RX10_73 rfl dX10_trial_19 hok (fun a5 h_a5 hok => ?_)
  refine lv_iload_n fx.1 fx.2.1 dX10_trial_22 rfl (lv_at hl 1 rfl) ?_
  refine lv_aload_n fx.1 fx.2.1 dX10_trial_23 rfl (lv_at hl 0 rfl) ?_
  refine g_getr fx hw h0 lf_RX10_76 rfl dX10_trial_24 hok (fun a6 h_a6 hok => ?_)
  obtain ⟨G7, hf, hok⟩ := gOk_bind hok
  refine g_callV0 (κ := 6) fx hw (c_X6_pass l X τ n a5 x1 a6 G4 h_a5 h_a6 hf) lv_RX10_292 ⟨rfl, rfl⟩ rfl rfl h_a5 rfl hl.1 rfl ⟨Nat.le_of_ble_eq_true rfl, Nat.le_of_ble_eq_true rfl⟩ (Nat.le_of_ble_eq_true rfl) ⟨Nat.le_of_ble_eq_true rfl, Nat.le_of_ble_eq_true rfl⟩ dX10_trial_27 (fun H locs hw => ?_)
  refine lv_iload_n fx.1 fx.2.1 dX10_trial_30 rfl (lv_at hl 2 rfl) ?_
  refine g_if_eq (tgt := 52) fx dX10_trial_31 (by decide) hok (fun hok => ?_) (fun hok => ?_)
  · refine lv_aload_n fx.1 fx.2.1 dX10_trial_52 rfl (lv_at hl 0 rfl) ?_
    refine g_getr fx hw h0 lf_RX10_73 rfl dX10_trial_53 hok (fun a8 h_a8 hok => ?_)
    obtain ⟨v9, hf, hok⟩ := gOk_bind hok
    refine g_callV0 (κ := 6) fx hw (c_X6_brokenRopes l X τ n a8 G7 h_a8 hf) lv_RX10_391 ⟨rfl, rfl⟩ rfl rfl h_a8 rfl hl.1 rfl ⟨Nat.le_of_ble_eq_true rfl, Nat.le_of_ble_eq_true rfl⟩ (Nat.le_of_ble_eq_true rfl) ⟨Nat.le_of_ble_eq_true rfl, Nat.le_of_ble_eq_true rfl⟩ dX10_trial_56 (fun H locs hw => ?_)
    cases gOk_some hok
    exact g_iretX fx hw hr ⟨Nat.le_of_ble_eq_true rfl, Nat.le_of_ble_eq_true rfl⟩ dX10_trial_59
  · refine lv_aload_n fx.1 fx.2.1 dX10_trial_34 rfl (lv_at hl 0 rfl) ?_
    refine g_getr fx hw h0 lf_RX10_73 rfl dX10_trial_35 hok (fun a10 h_a10 hok => ?_)
    refine g_geti fx hw h_a10 lf_RX10_400 rfl dX10_trial_38 ?_
    refine lv_aload_n fx.1 fx.2.1 dX10_trial_41 rfl (lv_at hl 0 rfl) ?_
    refine g_getr fx hw h0 lf_RX10_70 rfl dX10_trial_42 hok (fun a11 h_a11 hok => ?_)
    refine g_geti fx hw h_a11 lf_RX10_400 rfl dX10_trial_45 ?_
    refine lv_isub fx.1 fx.2.1 dX10_trial_48 ?_
    refine lv_goto (tgt := 59) fx.1 fx.2.1 dX10_trial_49 (by decide) ?_
    cases gOk_some hok
    exact g_iretX fx hw hr ⟨Nat.le_of_ble_eq_true rfl, Nat.le_of_ble_eq_true rfl⟩ dX10_trial_59
