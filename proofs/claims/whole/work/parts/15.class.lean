theorem dX10_firstShare_0 : decode cX10_firstShare 0 = .ok (.iload_n 0, 1) := by decide +kernel
theorem dX10_firstShare_1 : decode cX10_firstShare 1 = .ok (.iload_n 1, 1) := by decide +kernel
theorem dX10_firstShare_2 : decode cX10_firstShare 2 = .ok (.iadd, 1) := by decide +kernel
theorem dX10_firstShare_3 : decode cX10_firstShare 3 = .ok (.istore_n 3, 1) := by decide +kernel
theorem dX10_firstShare_4 : decode cX10_firstShare 4 = .ok (.iload_n 3, 1) := by decide +kernel
theorem dX10_firstShare_5 : decode cX10_firstShare 5 = .ok (.ifCond .le 11, 3) := by decide +kernel
theorem dX10_firstShare_8 : decode cX10_firstShare 8 = .ok (.iload_n 2, 1) := by decide +kernel
theorem dX10_firstShare_9 : decode cX10_firstShare 9 = .ok (.iload_n 0, 1) := by decide +kernel
theorem dX10_firstShare_10 : decode cX10_firstShare 10 = .ok (.imul, 1) := by decide +kernel
theorem dX10_firstShare_11 : decode cX10_firstShare 11 = .ok (.iload_n 3, 1) := by decide +kernel
theorem dX10_firstShare_12 : decode cX10_firstShare 12 = .ok (.idiv, 1) := by decide +kernel
theorem dX10_firstShare_13 : decode cX10_firstShare 13 = .ok (.goto 4, 3) := by decide +kernel
theorem dX10_firstShare_16 : decode cX10_firstShare 16 = .ok (.iconst 0, 1) := by decide +kernel
theorem dX10_firstShare_17 : decode cX10_firstShare 17 = .ok (.ireturn, 1) := by decide +kernel
def rm_X10_firstShare : Room := { frames := 0, cells := 0, slots := 0, locals := 0 }
def f_X10_firstShare (x0 : Int32) (x1 : Int32) (x2 : Int32) : Option (Int32) :=
  gLet (x0 + x1) fun v1 =>
  if v1 ≤ 0 then (some (0))
  else (gchk (¬ v1 = 0) <|
  some ((x2 * x0) / v1))
set_option maxHeartbeats 4000000 in
set_option maxRecDepth 100000 in
theorem c_X10_firstShare (l : Launch) (X : gX) (τ : gτ) (x0 : Int32) (x1 : Int32) (x2 : Int32) (G : gG)  {r : Int32}  (h : f_X10_firstShare x0 x1 x2 = some r) : gM l X τ yX10_firstShare cX10_firstShare 4 (some .int) rm_X10_firstShare [.int x0, .int x1, .int x2] G (some (.int r)) G := by
  refine g_body (by decide +kernel) (Nat.le_of_ble_eq_true rfl) ?_
  intro p e s m args below meth c ls fx hr hw hl
  have fx : gFx X p s m args meth c cX10_firstShare 4 RX10 := fx
  have hl : lv_has ls 4 [(0, .int x0), (1, .int x1), (2, .int x2)] := hl
  have hok : gOk (f_X10_firstShare x0 x1 x2) (fun q => q = r) := ⟨_, h, rfl⟩
  unfold f_X10_firstShare at hok
  show W p l e rm_X10_firstShare s m args below meth c s.heap [] 0 0 (MQ below (gQ X τ (some (.int r)) G) args s 0 0 (gFree X)) _
  refine lv_iload_n fx.1 fx.2.1 dX10_firstShare_0 rfl (lv_at hl 0 rfl) ?_
  refine lv_iload_n fx.1 fx.2.1 dX10_firstShare_1 rfl (lv_at hl 1 rfl) ?_
  refine lv_iadd fx.1 fx.2.1 dX10_firstShare_2 ?_
  refine g_leti hok (fun v1 hok => ?_)
  refine lv_istore_n (lv' := [(3, .int v1), (0, .int x0), (1, .int x1), (2, .int x2)]) fx.1 fx.2.1 dX10_firstShare_3 rfl hl (by decide) rfl (fun ls hl => ?_)
  refine lv_iload_n fx.1 fx.2.1 dX10_firstShare_4 rfl (lv_at hl 0 rfl) ?_
  refine g_if_le (tgt := 16) fx dX10_firstShare_5 (by decide) hok (fun hok => ?_) (fun hok => ?_)
  · refine lv_iconst (v := 0) fx.1 fx.2.1 dX10_firstShare_16 (by decide) ?_
    cases gOk_some hok
    exact g_iret fx hw hr dX10_firstShare_17
  · refine lv_iload_n fx.1 fx.2.1 dX10_firstShare_8 rfl (lv_at hl 3 rfl) ?_
    refine lv_iload_n fx.1 fx.2.1 dX10_firstShare_9 rfl (lv_at hl 1 rfl) ?_
    refine lv_imul fx.1 fx.2.1 dX10_firstShare_10 ?_
    refine lv_iload_n fx.1 fx.2.1 dX10_firstShare_11 rfl (lv_at hl 0 rfl) ?_
    refine g_idiv fx dX10_firstShare_12 hok (fun hok => ?_)
    refine lv_goto (tgt := 17) fx.1 fx.2.1 dX10_firstShare_13 (by decide) ?_
    cases gOk_some hok
    exact g_iret fx hw hr dX10_firstShare_17
theorem dX10_seasonsTillChange_0 : decode cX10_seasonsTillChange 0 = .ok (.iconst 0, 1) := by decide +kernel
theorem dX10_seasonsTillChange_1 : decode cX10_seasonsTillChange 1 = .ok (.istore_n 2, 1) := by decide +kernel
theorem dX10_seasonsTillChange_2 : decode cX10_seasonsTillChange 2 = .ok (.iload_n 2, 1) := by decide +kernel
theorem dX10_seasonsTillChange_3 : decode cX10_seasonsTillChange 3 = .ok (.bipush 40, 2) := by decide +kernel
theorem dX10_seasonsTillChange_5 : decode cX10_seasonsTillChange 5 = .ok (.if_icmp .gt 59, 3) := by decide +kernel
theorem dX10_seasonsTillChange_8 : decode cX10_seasonsTillChange 8 = .ok (.aload_n 1, 1) := by decide +kernel
theorem dX10_seasonsTillChange_9 : decode cX10_seasonsTillChange 9 = .ok (.getfield 185, 3) := by decide +kernel
theorem dX10_seasonsTillChange_12 : decode cX10_seasonsTillChange 12 = .ok (.ifCond .ne 52, 3) := by decide +kernel
theorem dX10_seasonsTillChange_15 : decode cX10_seasonsTillChange 15 = .ok (.aload_n 0, 1) := by decide +kernel
theorem dX10_seasonsTillChange_16 : decode cX10_seasonsTillChange 16 = .ok (.getfield 73, 3) := by decide +kernel
theorem dX10_seasonsTillChange_19 : decode cX10_seasonsTillChange 19 = .ok (.aload_n 1, 1) := by decide +kernel
theorem dX10_seasonsTillChange_20 : decode cX10_seasonsTillChange 20 = .ok (.aload_n 0, 1) := by decide +kernel
theorem dX10_seasonsTillChange_21 : decode cX10_seasonsTillChange 21 = .ok (.getfield 76, 3) := by decide +kernel
theorem dX10_seasonsTillChange_24 : decode cX10_seasonsTillChange 24 = .ok (.invokevirtual 191, 3) := by decide +kernel
theorem dX10_seasonsTillChange_27 : decode cX10_seasonsTillChange 27 = .ok (.iconst 2, 1) := by decide +kernel
theorem dX10_seasonsTillChange_28 : decode cX10_seasonsTillChange 28 = .ok (.aload_n 1, 1) := by decide +kernel
theorem dX10_seasonsTillChange_29 : decode cX10_seasonsTillChange 29 = .ok (.getfield 188, 3) := by decide +kernel
theorem dX10_seasonsTillChange_32 : decode cX10_seasonsTillChange 32 = .ok (.imul, 1) := by decide +kernel
theorem dX10_seasonsTillChange_33 : decode cX10_seasonsTillChange 33 = .ok (.if_icmp .ge 5, 3) := by decide +kernel
theorem dX10_seasonsTillChange_36 : decode cX10_seasonsTillChange 36 = .ok (.iload_n 2, 1) := by decide +kernel
theorem dX10_seasonsTillChange_37 : decode cX10_seasonsTillChange 37 = .ok (.ireturn, 1) := by decide +kernel
theorem dX10_seasonsTillChange_38 : decode cX10_seasonsTillChange 38 = .ok (.aload_n 0, 1) := by decide +kernel
theorem dX10_seasonsTillChange_39 : decode cX10_seasonsTillChange 39 = .ok (.getfield 73, 3) := by decide +kernel
theorem dX10_seasonsTillChange_42 : decode cX10_seasonsTillChange 42 = .ok (.aload_n 1, 1) := by decide +kernel
theorem dX10_seasonsTillChange_43 : decode cX10_seasonsTillChange 43 = .ok (.iconst 0, 1) := by decide +kernel
theorem dX10_seasonsTillChange_44 : decode cX10_seasonsTillChange 44 = .ok (.aload_n 0, 1) := by decide +kernel
theorem dX10_seasonsTillChange_45 : decode cX10_seasonsTillChange 45 = .ok (.getfield 76, 3) := by decide +kernel
theorem dX10_seasonsTillChange_48 : decode cX10_seasonsTillChange 48 = .ok (.invokevirtual 376, 3) := by decide +kernel
theorem dX10_seasonsTillChange_51 : decode cX10_seasonsTillChange 51 = .ok (.aload_n 0, 1) := by decide +kernel
theorem dX10_seasonsTillChange_52 : decode cX10_seasonsTillChange 52 = .ok (.getfield 73, 3) := by decide +kernel
theorem dX10_seasonsTillChange_55 : decode cX10_seasonsTillChange 55 = .ok (.invokevirtual 380, 3) := by decide +kernel
theorem dX10_seasonsTillChange_58 : decode cX10_seasonsTillChange 58 = .ok (.iinc 2 1, 3) := by decide +kernel
theorem dX10_seasonsTillChange_61 : decode cX10_seasonsTillChange 61 = .ok (.goto (-59), 3) := by decide +kernel
theorem dX10_seasonsTillChange_64 : decode cX10_seasonsTillChange 64 = .ok (.iconst (-1), 1) := by decide +kernel
theorem dX10_seasonsTillChange_65 : decode cX10_seasonsTillChange 65 = .ok (.ireturn, 1) := by decide +kernel
theorem lf_RX10_185 : gLf RX10 185 5 9 := ⟨(RX5, TX5, 10), rfl, by decide, wA_t (wt1 (List.mem_of_getElem? (i := 202) (by decide +kernel))) (by decide +kernel), rfl⟩
theorem lf_RX10_73 : gLf RX10 73 10 11 := ⟨(RX10, TX10, 15), rfl, by decide, wA_t (wt2 (List.mem_of_getElem? (i := 137) (by decide +kernel))) (by decide +kernel), rfl⟩
theorem lf_RX10_188 : gLf RX10 188 5 7 := ⟨(RX5, TX5, 10), rfl, by decide, wA_t (wt1 (List.mem_of_getElem? (i := 194) (by decide +kernel))) (by decide +kernel), rfl⟩
theorem lv_RX10_376 : gLv RX10 376 RX6 yX6_fray cX6_fray 5 none 3 := gLv_of (wA_t (wt6 (List.mem_of_getElem? (i := 123) (by decide +kernel))) (by decide +kernel)) (wA_t (wt6 (List.mem_of_getElem? (i := 3) (by decide +kernel))) (by decide +kernel)) (wA_t (wt6 (List.mem_of_getElem? (i := 4) (by decide +kernel))) (by decide +kernel)) (wA_t (wt1 (List.mem_of_getElem? (i := 6) (by decide +kernel))) (by decide +kernel)) (wA_t (wt6 (List.mem_of_getElem? (i := 5) (by decide +kernel))) (by decide +kernel)) ⟨rfl, by decide +kernel, by decide +kernel, by decide +kernel⟩
theorem lv_RX10_380 : gLv RX10 380 RX6 yX6_endSeason cX6_endSeason 1 none 0 := gLv_of (wA_t (wt6 (List.mem_of_getElem? (i := 124) (by decide +kernel))) (by decide +kernel)) (wA_t (wt6 (List.mem_of_getElem? (i := 18) (by decide +kernel))) (by decide +kernel)) (wA_t (wt6 (List.mem_of_getElem? (i := 19) (by decide +kernel))) (by decide +kernel)) (wA_t (wt1 (List.mem_of_getElem? (i := 6) (by decide +kernel))) (by decide +kernel)) (wA_t (wt6 (List.mem_of_getElem? (i := 20) (by decide +kernel))) (by decide +kernel)) ⟨rfl, by decide +kernel, by decide +kernel, by decide +kernel⟩
def rm_X10_seasonsTillChange : Room := { frames := 5, cells := 0, slots := 0, locals := 121 }
def b_X10_seasonsTillChange_2 (τ : gτ) (n : Nat) (x0 : Nat) (x1 : Nat) (x2 : Int32) (G : gG) : Option ((Int32 × gG) ⊕ ((gG) ⊕ (Int32 × gG))) :=
  if (40 : Int32) < x2 then (some (.inr (.inl G)))
  else (if (gi G 5 9 x1) = 0 then ((gr G 10 11 x0).bind fun a1 =>
  (gr G 10 12 x0).bind fun a2 =>
  gBind2 (f_X6_bearing τ n a1 x1 a2 G) fun v3 G4 =>
  if ((2 : Int32) * (gi G4 5 7 x1)) ≤ v3 then ((gr G4 10 11 x0).bind fun a5 =>
  (gr G4 10 12 x0).bind fun a6 =>
  (f_X6_fray τ n a5 x1 (0 : Int32) a6 G4).bind fun G7 =>
  (gr G7 10 11 x0).bind fun a8 =>
  (f_X6_endSeason a8 G7).bind fun G9 =>
  gLet (x2 + 1) fun v10 =>
  some (.inl (v10, G9)))
  else (some (.inr (.inr (x2, G4)))))
  else (some (.inr (.inl G))))
def l_X10_seasonsTillChange_2 (τ : gτ) (n : Nat) (x0 : Nat) (x1 : Nat) (x2 : Int32) (G : gG) : Option ((gG) ⊕ (Int32 × gG)) :=
  gIter (fun (q : Int32 × gG) => b_X10_seasonsTillChange_2 τ n x0 x1 q.1 q.2) n (x2, G)
def f_X10_seasonsTillChange (τ : gτ) (n : Nat) (x0 : Nat) (x1 : Nat) (G : gG) : Option (Int32 × gG) :=
  (l_X10_seasonsTillChange_2 τ n x0 x1 (0 : Int32) G).bind fun q => match q with
  | .inl q => gLet q fun G11 => (some ((-1), G11))
  | .inr q => (gLet q.1 fun z12 => gLet q.2 fun G13 => some (z12, G13))
set_option maxHeartbeats 4000000 in
set_option maxRecDepth 100000 in
theorem w_b_X10_seasonsTillChange_2 {X : gX} {τ : gτ} {p : Program} {l : Launch} {e : Env} {s : State} {m : MethodId} {args : Array Value} {below : List Frame} {meth : Method} {c : Code} (fx : gFx X p s m args meth c cX10_seasonsTillChange 3 RX10) (n : Nat) (x0 : Nat) (x1 : Nat) (x2 : Int32) (h0 : gK τ x0 10) (h1 : gK τ x1 5) {Q : State → Prop} {K : ((Int32 × gG) ⊕ ((gG) ⊕ (Int32 × gG))) → Prop} {G : gG} {H : Heap} {locs : List Loc} {ls : Array Slot} (hw : gHw X τ G H locs) (hl : lv_has ls 3 [(0, .ref x0), (1, .ref x1), (2, .int x2)]) (hok : gOk (b_X10_seasonsTillChange_2 τ n x0 x1 x2 G) K) (hc : ∀ (y2 : Int32) (G : gG) (H : Heap) (locs : List Loc) (ls : Array Slot), gHw X τ G H locs → lv_has ls 3 [(0, .ref x0), (1, .ref x1), (2, .int y2)] → K (.inl (y2, G)) → W p l e rm_X10_seasonsTillChange s m args below meth c H locs 0 0 Q (F0 m 2 ls [])) (hx0 : ∀ (G : gG) (H : Heap) (locs : List Loc) (ls : Array Slot), gHw X τ G H locs → lv_has ls 3 [] → K (.inr (.inl G)) → W p l e rm_X10_seasonsTillChange s m args below meth c H locs 0 0 Q (F0 m 64 ls [])) (hx1 : ∀ (y2 : Int32) (G : gG) (H : Heap) (locs : List Loc) (ls : Array Slot), gHw X τ G H locs → lv_has ls 3 [(2, .int y2)] → K (.inr (.inr (y2, G))) → W p l e rm_X10_seasonsTillChange s m args below meth c H locs 0 0 Q (F0 m 36 ls [])) : W p l e rm_X10_seasonsTillChange s m args below meth c H locs 0 0 Q (F0 m 2 ls []) := by
  unfold b_X10_seasonsTillChange_2 at hok
  refine lv_iload_n fx.1 fx.2.1 dX10_seasonsTillChange_2 rfl (lv_at hl 2 rfl) ?_
  refine lv_bipush (v := 40) fx.1 fx.2.1 dX10_seasonsTillChange_3 (by decide) ?_
  refine g_icmp_gt (tgt := 64) fx dX10_seasonsTillChange_5 (by decide) hok (fun hok => ?_) (fun hok => ?_)
  · exact hx0  G _ _ _  hw (lv_sub hl [] rfl) (gOk_some hok)
  · refine lv_aload_n fx.1 fx.2.1 dX10_seasonsTillChange_8 rfl (lv_at hl 1 rfl) ?_
    refine g_geti fx hw h1 lf_RX10_185 rfl dX10_seasonsTillChange_9 ?_
    refine g_if_ne (tgt := 64) fx dX10_seasonsTillChange_12 (by decide) hok (fun hok => ?_) (fun hok => ?_)
    · refine lv_aload_n fx.1 fx.2.1 dX10_seasonsTillChange_15 rfl (lv_at hl 0 rfl) ?_
      refine g_getr fx hw h0 lf_RX10_73 rfl dX10_seasonsTillChange_16 hok (fun a1 h_a1 hok => ?_)
      refine lv_aload_n fx.1 fx.2.1 dX10_seasonsTillChange_19 rfl (lv_at hl 1 rfl) ?_
      refine lv_aload_n fx.1 fx.2.1 dX10_seasonsTillChange_20 rfl (lv_at hl 0 rfl) ?_
      refine g_getr fx hw h0 lf_RX10_76 rfl dX10_seasonsTillChange_21 hok (fun a2 h_a2 hok => ?_)
      obtain ⟨v3, G4, hf, hok⟩ := gOk_bind2 hok
      refine g_callV0 (κ := 6) fx hw (c_X6_bearing l X τ n a1 x1 a2 G h_a1 h1 h_a2 hf) lv_RX10_191 ⟨rfl, rfl⟩ rfl rfl h_a1 rfl hl.1 rfl ⟨Nat.le_of_ble_eq_true rfl, Nat.le_of_ble_eq_true rfl⟩ (Nat.le_of_ble_eq_true rfl) ⟨Nat.le_of_ble_eq_true rfl, Nat.le_of_ble_eq_true rfl⟩ dX10_seasonsTillChange_24 (fun H locs hw => ?_)
      refine lv_iconst (v := 2) fx.1 fx.2.1 dX10_seasonsTillChange_27 (by decide) ?_
      refine lv_aload_n fx.1 fx.2.1 dX10_seasonsTillChange_28 rfl (lv_at hl 1 rfl) ?_
      refine g_geti fx hw h1 lf_RX10_188 rfl dX10_seasonsTillChange_29 ?_
      refine lv_imul fx.1 fx.2.1 dX10_seasonsTillChange_32 ?_
      refine g_icmp_ge (tgt := 38) fx dX10_seasonsTillChange_33 (by decide) hok (fun hok => ?_) (fun hok => ?_)
      · refine lv_aload_n fx.1 fx.2.1 dX10_seasonsTillChange_38 rfl (lv_at hl 0 rfl) ?_
        refine g_getr fx hw h0 lf_RX10_73 rfl dX10_seasonsTillChange_39 hok (fun a5 h_a5 hok => ?_)
        refine lv_aload_n fx.1 fx.2.1 dX10_seasonsTillChange_42 rfl (lv_at hl 1 rfl) ?_
        refine lv_iconst (v := 0) fx.1 fx.2.1 dX10_seasonsTillChange_43 (by decide) ?_
        refine lv_aload_n fx.1 fx.2.1 dX10_seasonsTillChange_44 rfl (lv_at hl 0 rfl) ?_
        refine g_getr fx hw h0 lf_RX10_76 rfl dX10_seasonsTillChange_45 hok (fun a6 h_a6 hok => ?_)
        obtain ⟨G7, hf, hok⟩ := gOk_bind hok
        refine g_callV0 (κ := 6) fx hw (c_X6_fray l X τ n a5 x1 (0 : Int32) a6 G4 h_a5 h1 h_a6 hf) lv_RX10_376 ⟨rfl, rfl⟩ rfl rfl h_a5 rfl hl.1 rfl ⟨Nat.le_of_ble_eq_true rfl, Nat.le_of_ble_eq_true rfl⟩ (Nat.le_of_ble_eq_true rfl) ⟨Nat.le_of_ble_eq_true rfl, Nat.le_of_ble_eq_true rfl⟩ dX10_seasonsTillChange_48 (fun H locs hw => ?_)
        refine lv_aload_n fx.1 fx.2.1 dX10_seasonsTillChange_51 rfl (lv_at hl 0 rfl) ?_
        refine g_getr fx hw h0 lf_RX10_73 rfl dX10_seasonsTillChange_52 hok (fun a8 h_a8 hok => ?_)
        obtain ⟨G9, hf, hok⟩ := gOk_bind hok
        refine g_callV0 (κ := 6) fx hw (c_X6_endSeason l X τ a8 G7 h_a8 hf) lv_RX10_380 ⟨rfl, rfl⟩ rfl rfl h_a8 rfl hl.1 rfl ⟨Nat.le_of_ble_eq_true rfl, Nat.le_of_ble_eq_true rfl⟩ (Nat.le_of_ble_eq_true rfl) ⟨Nat.le_of_ble_eq_true rfl, Nat.le_of_ble_eq_true rfl⟩ dX10_seasonsTillChange_55 (fun H locs hw => ?_)
        obtain ⟨v10, e_v10, hok⟩ := gOk_let hok
        refine lv_iinc (v := v10) (lv' := [(2, .int v10), (0, .ref x0), (1, .ref x1)]) fx.1 fx.2.1 dX10_seasonsTillChange_58 hl (k := 2) rfl (by rw [e_v10]; rfl) (by decide) rfl (fun ls hl => ?_)
        refine lv_goto (tgt := 2) fx.1 fx.2.1 dX10_seasonsTillChange_61 (by decide) ?_
        exact hc v10 G9 _ _ _  hw (lv_sub hl [1, 2, 0] rfl) (gOk_some hok)
      · exact hx1 x2 G4 _ _ _  hw (lv_sub hl [2] rfl) (gOk_some hok)
    · exact hx0  G _ _ _  hw (lv_sub hl [] rfl) (gOk_some hok)
theorem w_l_X10_seasonsTillChange_2 {X : gX} {τ : gτ} {p : Program} {l : Launch} {e : Env} {s : State} {m : MethodId} {args : Array Value} {below : List Frame} {meth : Method} {c : Code} (fx : gFx X p s m args meth c cX10_seasonsTillChange 3 RX10) (n : Nat) (x0 : Nat) (x1 : Nat) (h0 : gK τ x0 10) (h1 : gK τ x1 5) {Q : State → Prop} {K : ((gG) ⊕ (Int32 × gG)) → Prop} (hx0 : ∀ (G : gG) (H : Heap) (locs : List Loc) (ls : Array Slot), gHw X τ G H locs → lv_has ls 3 [] → K (.inl G) → W p l e rm_X10_seasonsTillChange s m args below meth c H locs 0 0 Q (F0 m 64 ls [])) (hx1 : ∀ (y2 : Int32) (G : gG) (H : Heap) (locs : List Loc) (ls : Array Slot), gHw X τ G H locs → lv_has ls 3 [(2, .int y2)] → K (.inr (y2, G)) → W p l e rm_X10_seasonsTillChange s m args below meth c H locs 0 0 Q (F0 m 36 ls [])) : ∀ (k : Nat) (x2 : Int32) (G : gG) (H : Heap) (locs : List Loc) (ls : Array Slot), gHw X τ G H locs → lv_has ls 3 [(0, .ref x0), (1, .ref x1), (2, .int x2)] → gOk (gIter (fun (q : Int32 × gG) => b_X10_seasonsTillChange_2 τ n x0 x1 q.1 q.2) k (x2, G)) K → W p l e rm_X10_seasonsTillChange s m args below meth c H locs 0 0 Q (F0 m 2 ls []) := by
  intro k
  induction k with
  | zero =>
    intro x2 G H locs ls hw hl hok
    exact gOk_iter0 hok
  | succ k hc =>
    intro x2 G H locs ls hw hl hok
    exact w_b_X10_seasonsTillChange_2 fx n x0 x1 x2 h0 h1 hw hl (gOk_iter hok) hc hx0 hx1
set_option maxHeartbeats 4000000 in
set_option maxRecDepth 100000 in
theorem c_X10_seasonsTillChange (l : Launch) (X : gX) (τ : gτ) (n : Nat) (x0 : Nat) (x1 : Nat) (G : gG) (h0 : gK τ x0 10) (h1 : gK τ x1 5) {r : Int32} {G' : gG} (h : f_X10_seasonsTillChange τ n x0 x1 G = some (r, G')) : gM l X τ yX10_seasonsTillChange cX10_seasonsTillChange 3 (some .int) rm_X10_seasonsTillChange [.ref x0, .ref x1] G (some (.int r)) G' := by
  refine g_body (by decide +kernel) (Nat.le_of_ble_eq_true rfl) ?_
  intro p e s m args below meth c ls fx hr hw hl
  have fx : gFx X p s m args meth c cX10_seasonsTillChange 3 RX10 := fx
  have hl : lv_has ls 3 [(0, .ref x0), (1, .ref x1)] := hl
  have hok : gOk (f_X10_seasonsTillChange τ n x0 x1 G) (fun q => q = (r, G')) := ⟨_, h, rfl⟩
  unfold f_X10_seasonsTillChange at hok
  show W p l e rm_X10_seasonsTillChange s m args below meth c s.heap [] 0 0 (MQ below (gQ X τ (some (.int r)) G') args s 0 0 (gFree X)) _
  refine lv_iconst (v := 0) fx.1 fx.2.1 dX10_seasonsTillChange_0 (by decide) ?_
  refine lv_istore_n (lv' := [(2, .int (0 : Int32)), (0, .ref x0), (1, .ref x1)]) fx.1 fx.2.1 dX10_seasonsTillChange_1 rfl hl (by decide) rfl (fun ls hl => ?_)
  refine w_l_X10_seasonsTillChange_2 fx n x0 x1 h0 h1 ?_ ?_ n (0 : Int32) G _ _ _  hw (lv_sub hl [1, 2, 0] rfl) (gOk_bindK hok)
  · intro G11 H locs ls hw hl hok
    have hok : gOk (ρ := Int32 × gG) (some ((-1), G11)) _ := hok
    refine lv_iconst (v := (-1)) fx.1 fx.2.1 dX10_seasonsTillChange_64 (by decide) ?_
    cases gOk_some hok
    exact g_iret fx hw hr dX10_seasonsTillChange_65
  · intro z12 G13 H locs ls hw hl hok
    have hok : gOk (ρ := Int32 × gG) (some (z12, G13)) _ := hok
    refine lv_iload_n fx.1 fx.2.1 dX10_seasonsTillChange_36 rfl (lv_at hl 0 rfl) ?_
    cases gOk_some hok
    exact g_iret fx hw hr dX10_seasonsTillChange_37
theorem dX10_weakest_0 : decode cX10_weakest 0 = .ok (.iconst (-1), 1) := by decide +kernel
theorem dX10_weakest_1 : decode cX10_weakest 1 = .ok (.istore_n 1, 1) := by decide +kernel
theorem dX10_weakest_2 : decode cX10_weakest 2 = .ok (.iconst 0, 1) := by decide +kernel
theorem dX10_weakest_3 : decode cX10_weakest 3 = .ok (.istore_n 2, 1) := by decide +kernel
theorem dX10_weakest_4 : decode cX10_weakest 4 = .ok (.iconst 0, 1) := by decide +kernel
theorem dX10_weakest_5 : decode cX10_weakest 5 = .ok (.istore_n 3, 1) := by decide +kernel
theorem dX10_weakest_6 : decode cX10_weakest 6 = .ok (.iload_n 3, 1) := by decide +kernel
theorem dX10_weakest_7 : decode cX10_weakest 7 = .ok (.aload_n 0, 1) := by decide +kernel
theorem dX10_weakest_8 : decode cX10_weakest 8 = .ok (.getfield 70, 3) := by decide +kernel
theorem dX10_weakest_11 : decode cX10_weakest 11 = .ok (.getfield 286, 3) := by decide +kernel
theorem dX10_weakest_14 : decode cX10_weakest 14 = .ok (.if_icmp .ge 65, 3) := by decide +kernel
theorem dX10_weakest_17 : decode cX10_weakest 17 = .ok (.aload_n 0, 1) := by decide +kernel
theorem dX10_weakest_18 : decode cX10_weakest 18 = .ok (.getfield 70, 3) := by decide +kernel
theorem dX10_weakest_21 : decode cX10_weakest 21 = .ok (.getfield 325, 3) := by decide +kernel
theorem dX10_weakest_24 : decode cX10_weakest 24 = .ok (.iload_n 3, 1) := by decide +kernel
theorem dX10_weakest_25 : decode cX10_weakest 25 = .ok (.aaload, 1) := by decide +kernel
theorem dX10_weakest_26 : decode cX10_weakest 26 = .ok (.astore 4, 2) := by decide +kernel
theorem dX10_weakest_28 : decode cX10_weakest 28 = .ok (.aload 4, 2) := by decide +kernel
theorem dX10_weakest_30 : decode cX10_weakest 30 = .ok (.getfield 185, 3) := by decide +kernel
theorem dX10_weakest_33 : decode cX10_weakest 33 = .ok (.ifCond .ne 40, 3) := by decide +kernel
theorem dX10_weakest_36 : decode cX10_weakest 36 = .ok (.aload_n 0, 1) := by decide +kernel
theorem dX10_weakest_37 : decode cX10_weakest 37 = .ok (.getfield 70, 3) := by decide +kernel
theorem dX10_weakest_40 : decode cX10_weakest 40 = .ok (.aload 4, 2) := by decide +kernel
theorem dX10_weakest_42 : decode cX10_weakest 42 = .ok (.aload_n 0, 1) := by decide +kernel
theorem dX10_weakest_43 : decode cX10_weakest 43 = .ok (.getfield 76, 3) := by decide +kernel
theorem dX10_weakest_46 : decode cX10_weakest 46 = .ok (.invokevirtual 191, 3) := by decide +kernel
theorem dX10_weakest_49 : decode cX10_weakest 49 = .ok (.aload 4, 2) := by decide +kernel
theorem dX10_weakest_51 : decode cX10_weakest 51 = .ok (.getfield 188, 3) := by decide +kernel
theorem dX10_weakest_54 : decode cX10_weakest 54 = .ok (.isub, 1) := by decide +kernel
theorem dX10_weakest_55 : decode cX10_weakest 55 = .ok (.istore 5, 2) := by decide +kernel
theorem dX10_weakest_57 : decode cX10_weakest 57 = .ok (.iload_n 1, 1) := by decide +kernel
theorem dX10_weakest_58 : decode cX10_weakest 58 = .ok (.iconst (-1), 1) := by decide +kernel
theorem dX10_weakest_59 : decode cX10_weakest 59 = .ok (.if_icmp .eq 9, 3) := by decide +kernel
theorem dX10_weakest_62 : decode cX10_weakest 62 = .ok (.iload 5, 2) := by decide +kernel
theorem dX10_weakest_64 : decode cX10_weakest 64 = .ok (.iload_n 2, 1) := by decide +kernel
theorem dX10_weakest_65 : decode cX10_weakest 65 = .ok (.if_icmp .ge 8, 3) := by decide +kernel
theorem dX10_weakest_68 : decode cX10_weakest 68 = .ok (.iload 5, 2) := by decide +kernel
theorem dX10_weakest_70 : decode cX10_weakest 70 = .ok (.istore_n 2, 1) := by decide +kernel
theorem dX10_weakest_71 : decode cX10_weakest 71 = .ok (.iload_n 3, 1) := by decide +kernel
theorem dX10_weakest_72 : decode cX10_weakest 72 = .ok (.istore_n 1, 1) := by decide +kernel
theorem dX10_weakest_73 : decode cX10_weakest 73 = .ok (.iinc 3 1, 3) := by decide +kernel
theorem dX10_weakest_76 : decode cX10_weakest 76 = .ok (.goto (-70), 3) := by decide +kernel
theorem dX10_weakest_79 : decode cX10_weakest 79 = .ok (.iload_n 1, 1) := by decide +kernel
theorem dX10_weakest_80 : decode cX10_weakest 80 = .ok (.ireturn, 1) := by decide +kernel
def rm_X10_weakest : Room := { frames := 4, cells := 0, slots := 0, locals := 97 }
def k_X10_weakest_68 (τ : gτ) (n : Nat) (x0 : Nat) (x3 : Int32) (x5 : Int32)  (G : gG) : Option ((Int32 × Int32 × Int32 × gG) ⊕ ((Int32 × gG))) :=
  gLet (x3 + 1) fun v10 =>
  some (.inl (x3, x5, v10, G))
def b_X10_weakest_6 (τ : gτ) (n : Nat) (x0 : Nat) (x1 : Int32) (x2 : Int32) (x3 : Int32) (G : gG) : Option ((Int32 × Int32 × Int32 × gG) ⊕ ((Int32 × gG))) :=
  (gr G 10 10 x0).bind fun a1 =>
  if (gi G 6 5 a1) ≤ x3 then (some (.inr (x1, G)))
  else ((gr G 10 10 x0).bind fun a2 =>
  (gr G 6 1 a2).bind fun a3 =>
  gchk (gIn x3 (gn τ a3)) <| (gq G a3 (Int32.toNatClampNeg x3)).bind fun a4 =>
  if (gi G 5 9 a4) = 0 then ((gr G 10 10 x0).bind fun a5 =>
  (gr G 10 12 x0).bind fun a6 =>
  gBind2 (f_X6_bearing τ n a5 a4 a6 G) fun v7 G8 =>
  gLet (v7 - (gi G8 5 7 a4)) fun v9 =>
  if x1 = (-1 : Int32) then (k_X10_weakest_68 τ n x0 x3 v9  G8)
  else (if x2 ≤ v9 then (gLet (x3 + 1) fun v11 =>
  some (.inl (x1, x2, v11, G8)))
  else (k_X10_weakest_68 τ n x0 x3 v9  G8)))
  else (gLet (x3 + 1) fun v12 =>
  some (.inl (x1, x2, v12, G))))
def l_X10_weakest_6 (τ : gτ) (n : Nat) (x0 : Nat) (x1 : Int32) (x2 : Int32) (x3 : Int32) (G : gG) : Option ((Int32 × gG)) :=
  gIter (fun (q : Int32 × Int32 × Int32 × gG) => b_X10_weakest_6 τ n x0 q.1 q.2.1 q.2.2.1 q.2.2.2) n (x1, x2, x3, G)
def f_X10_weakest (τ : gτ) (n : Nat) (x0 : Nat) (G : gG) : Option (Int32 × gG) :=
  (l_X10_weakest_6 τ n x0 (-1 : Int32) (0 : Int32) (0 : Int32) G).bind fun q => gLet q.1 fun z13 => gLet q.2 fun G14 => 
  some (z13, G14)
set_option maxHeartbeats 4000000 in
set_option maxRecDepth 100000 in
theorem w_X10_weakest_68 {X : gX} {τ : gτ} {p : Program} {l : Launch} {e : Env} {s : State} {m : MethodId} {args : Array Value} {below : List Frame} {meth : Method} {c : Code} (fx : gFx X p s m args meth c cX10_weakest 6 RX10) (n : Nat) (x0 : Nat) (x3 : Int32) (x5 : Int32)  (h0 : gK τ x0 10)  {Q : State → Prop} {K : ((Int32 × Int32 × Int32 × gG) ⊕ ((Int32 × gG))) → Prop} {G : gG} {H : Heap} {locs : List Loc} {ls : Array Slot} (hw : gHw X τ G H locs) (hl : lv_has ls 6 [(0, .ref x0), (3, .int x3), (5, .int x5)]) (hok : gOk (k_X10_weakest_68 τ n x0 x3 x5  G) K) (hc : ∀ (y1 : Int32) (y2 : Int32) (y3 : Int32) (G : gG) (H : Heap) (locs : List Loc) (ls : Array Slot), gHw X τ G H locs → lv_has ls 6 [(0, .ref x0), (1, .int y1), (2, .int y2), (3, .int y3)] → K (.inl (y1, y2, y3, G)) → W p l e rm_X10_weakest s m args below meth c H locs 0 0 Q (F0 m 6 ls [])) (hx0 : ∀ (y1 : Int32) (G : gG) (H : Heap) (locs : List Loc) (ls : Array Slot), gHw X τ G H locs → lv_has ls 6 [(1, .int y1)] → K (.inr (y1, G)) → W p l e rm_X10_weakest s m args below meth c H locs 0 0 Q (F0 m 79 ls [])) : W p l e rm_X10_weakest s m args below meth c H locs 0 0 Q (F0 m 68 ls []) := by
  unfold k_X10_weakest_68 at hok
  refine lv_iload fx.1 fx.2.1 dX10_weakest_68 (lv_at hl 2 rfl) ?_
  refine lv_istore_n (lv' := [(2, .int x5), (0, .ref x0), (3, .int x3), (5, .int x5)]) fx.1 fx.2.1 dX10_weakest_70 rfl hl (by decide) rfl (fun ls hl => ?_)
  refine lv_iload_n fx.1 fx.2.1 dX10_weakest_71 rfl (lv_at hl 2 rfl) ?_
  refine lv_istore_n (lv' := [(1, .int x3), (2, .int x5), (0, .ref x0), (3, .int x3), (5, .int x5)]) fx.1 fx.2.1 dX10_weakest_72 rfl hl (by decide) rfl (fun ls hl => ?_)
  obtain ⟨v10, e_v10, hok⟩ := gOk_let hok
  refine lv_iinc (v := v10) (lv' := [(3, .int v10), (1, .int x3), (2, .int x5), (0, .ref x0), (5, .int x5)]) fx.1 fx.2.1 dX10_weakest_73 hl (k := 3) rfl (by rw [e_v10]; rfl) (by decide) rfl (fun ls hl => ?_)
  refine lv_goto (tgt := 6) fx.1 fx.2.1 dX10_weakest_76 (by decide) ?_
  exact hc x3 x5 v10 G _ _ _  hw (lv_sub hl [3, 1, 2, 0] rfl) (gOk_some hok)
set_option maxHeartbeats 4000000 in
set_option maxRecDepth 100000 in
theorem w_b_X10_weakest_6 {X : gX} {τ : gτ} {p : Program} {l : Launch} {e : Env} {s : State} {m : MethodId} {args : Array Value} {below : List Frame} {meth : Method} {c : Code} (fx : gFx X p s m args meth c cX10_weakest 6 RX10) (n : Nat) (x0 : Nat) (x1 : Int32) (x2 : Int32) (x3 : Int32) (h0 : gK τ x0 10) {Q : State → Prop} {K : ((Int32 × Int32 × Int32 × gG) ⊕ ((Int32 × gG))) → Prop} {G : gG} {H : Heap} {locs : List Loc} {ls : Array Slot} (hw : gHw X τ G H locs) (hl : lv_has ls 6 [(0, .ref x0), (1, .int x1), (2, .int x2), (3, .int x3)]) (hok : gOk (b_X10_weakest_6 τ n x0 x1 x2 x3 G) K) (hc : ∀ (y1 : Int32) (y2 : Int32) (y3 : Int32) (G : gG) (H : Heap) (locs : List Loc) (ls : Array Slot), gHw X τ G H locs → lv_has ls 6 [(0, .ref x0), (1, .int y1), (2, .int y2), (3, .int y3)] → K (.inl (y1, y2, y3, G)) → W p l e rm_X10_weakest s m args below meth c H locs 0 0 Q (F0 m 6 ls [])) (hx0 : ∀ (y1 : Int32) (G : gG) (H : Heap) (locs : List Loc) (ls : Array Slot), gHw X τ G H locs → lv_has ls 6 [(1, .int y1)] → K (.inr (y1, G)) → W p l e rm_X10_weakest s m args below meth c H locs 0 0 Q (F0 m 79 ls [])) : W p l e rm_X10_weakest s m args below meth c H locs 0 0 Q (F0 m 6 ls []) := by
  unfold b_X10_weakest_6 at hok
  refine lv_iload_n fx.1 fx.2.1 dX10_weakest_6 rfl (lv_at hl 3 rfl) ?_
  refine lv_aload_n fx.1 fx.2.1 dX10_weakest_7 rfl (lv_at hl 0 rfl) ?_
  refine g_getr fx hw h0 lf_RX10_70 rfl dX10_weakest_8 hok (fun a1 h_a1 hok => ?_)
  refine g_geti fx hw h_a1 lf_RX10_286 rfl dX10_weakest_11 ?_
  refine g_icmp_ge (tgt := 79) fx dX10_weakest_14 (by decide) hok (fun hok => ?_) (fun hok => ?_)
  · exact hx0 x1 G _ _ _  hw (lv_sub hl [1] rfl) (gOk_some hok)
  · refine lv_aload_n fx.1 fx.2.1 dX10_weakest_17 rfl (lv_at hl 0 rfl) ?_
    refine g_getr fx hw h0 lf_RX10_70 rfl dX10_weakest_18 hok (fun a2 h_a2 hok => ?_)
    refine g_getr fx hw h_a2 lf_RX10_325 rfl dX10_weakest_21 hok (fun a3 h_a3 hok => ?_)
    refine lv_iload_n fx.1 fx.2.1 dX10_weakest_24 rfl (lv_at hl 3 rfl) ?_
    refine g_aald fx hw 15 3 h_a3 (by decide) (by decide) rfl (κ' := 5) rfl dX10_weakest_25 hok (fun a4 h_a4 hok => ?_)
    refine lv_astore (lv' := [(4, .ref a4), (0, .ref x0), (1, .int x1), (2, .int x2), (3, .int x3)]) fx.1 fx.2.1 dX10_weakest_26 hl (by decide) rfl (fun ls hl => ?_)
    refine lv_aload fx.1 fx.2.1 dX10_weakest_28 (lv_at hl 0 rfl) ?_
    refine g_geti fx hw h_a4 lf_RX10_185 rfl dX10_weakest_30 ?_
    refine g_if_ne (tgt := 73) fx dX10_weakest_33 (by decide) hok (fun hok => ?_) (fun hok => ?_)
    · refine lv_aload_n fx.1 fx.2.1 dX10_weakest_36 rfl (lv_at hl 1 rfl) ?_
      refine g_getr fx hw h0 lf_RX10_70 rfl dX10_weakest_37 hok (fun a5 h_a5 hok => ?_)
      refine lv_aload fx.1 fx.2.1 dX10_weakest_40 (lv_at hl 0 rfl) ?_
      refine lv_aload_n fx.1 fx.2.1 dX10_weakest_42 rfl (lv_at hl 1 rfl) ?_
      refine g_getr fx hw h0 lf_RX10_76 rfl dX10_weakest_43 hok (fun a6 h_a6 hok => ?_)
      obtain ⟨v7, G8, hf, hok⟩ := gOk_bind2 hok
      refine g_callV0 (κ := 6) fx hw (c_X6_bearing l X τ n a5 a4 a6 G h_a5 h_a4 h_a6 hf) lv_RX10_191 ⟨rfl, rfl⟩ rfl rfl h_a5 rfl hl.1 rfl ⟨Nat.le_of_ble_eq_true rfl, Nat.le_of_ble_eq_true rfl⟩ (Nat.le_of_ble_eq_true rfl) ⟨Nat.le_of_ble_eq_true rfl, Nat.le_of_ble_eq_true rfl⟩ dX10_weakest_46 (fun H locs hw => ?_)
      refine lv_aload fx.1 fx.2.1 dX10_weakest_49 (lv_at hl 0 rfl) ?_
      refine g_geti fx hw h_a4 lf_RX10_188 rfl dX10_weakest_51 ?_
      refine lv_isub fx.1 fx.2.1 dX10_weakest_54 ?_
      refine g_leti hok (fun v9 hok => ?_)
      refine lv_istore (lv' := [(5, .int v9), (4, .ref a4), (0, .ref x0), (1, .int x1), (2, .int x2), (3, .int x3)]) fx.1 fx.2.1 dX10_weakest_55 hl (by decide) rfl (fun ls hl => ?_)
      refine lv_iload_n fx.1 fx.2.1 dX10_weakest_57 rfl (lv_at hl 3 rfl) ?_
      refine lv_iconst (v := (-1)) fx.1 fx.2.1 dX10_weakest_58 (by decide) ?_
      refine g_icmp_eq (tgt := 68) fx dX10_weakest_59 (by decide) hok (fun hok => ?_) (fun hok => ?_)
      · exact w_X10_weakest_68 fx n x0 x3 v9  h0  hw (lv_sub hl [2, 5, 0] rfl) hok hc hx0
      · refine lv_iload fx.1 fx.2.1 dX10_weakest_62 (lv_at hl 0 rfl) ?_
        refine lv_iload_n fx.1 fx.2.1 dX10_weakest_64 rfl (lv_at hl 4 rfl) ?_
        refine g_icmp_ge (tgt := 73) fx dX10_weakest_65 (by decide) hok (fun hok => ?_) (fun hok => ?_)
        · obtain ⟨v11, e_v11, hok⟩ := gOk_let hok
          refine lv_iinc (v := v11) (lv' := [(3, .int v11), (5, .int v9), (4, .ref a4), (0, .ref x0), (1, .int x1), (2, .int x2)]) fx.1 fx.2.1 dX10_weakest_73 hl (k := 5) rfl (by rw [e_v11]; rfl) (by decide) rfl (fun ls hl => ?_)
          refine lv_goto (tgt := 6) fx.1 fx.2.1 dX10_weakest_76 (by decide) ?_
          exact hc x1 x2 v11 G8 _ _ _  hw (lv_sub hl [3, 4, 5, 0] rfl) (gOk_some hok)
        · exact w_X10_weakest_68 fx n x0 x3 v9  h0  hw (lv_sub hl [2, 5, 0] rfl) hok hc hx0
    · obtain ⟨v12, e_v12, hok⟩ := gOk_let hok
      refine lv_iinc (v := v12) (lv' := [(3, .int v12), (4, .ref a4), (0, .ref x0), (1, .int x1), (2, .int x2)]) fx.1 fx.2.1 dX10_weakest_73 hl (k := 4) rfl (by rw [e_v12]; rfl) (by decide) rfl (fun ls hl => ?_)
      refine lv_goto (tgt := 6) fx.1 fx.2.1 dX10_weakest_76 (by decide) ?_
      exact hc x1 x2 v12 G _ _ _  hw (lv_sub hl [2, 3, 4, 0] rfl) (gOk_some hok)
theorem w_l_X10_weakest_6 {X : gX} {τ : gτ} {p : Program} {l : Launch} {e : Env} {s : State} {m : MethodId} {args : Array Value} {below : List Frame} {meth : Method} {c : Code} (fx : gFx X p s m args meth c cX10_weakest 6 RX10) (n : Nat) (x0 : Nat) (h0 : gK τ x0 10) {Q : State → Prop} {K : ((Int32 × gG)) → Prop} (hx0 : ∀ (y1 : Int32) (G : gG) (H : Heap) (locs : List Loc) (ls : Array Slot), gHw X τ G H locs → lv_has ls 6 [(1, .int y1)] → K (y1, G) → W p l e rm_X10_weakest s m args below meth c H locs 0 0 Q (F0 m 79 ls [])) : ∀ (k : Nat) (x1 : Int32) (x2 : Int32) (x3 : Int32) (G : gG) (H : Heap) (locs : List Loc) (ls : Array Slot), gHw X τ G H locs → lv_has ls 6 [(0, .ref x0), (1, .int x1), (2, .int x2), (3, .int x3)] → gOk (gIter (fun (q : Int32 × Int32 × Int32 × gG) => b_X10_weakest_6 τ n x0 q.1 q.2.1 q.2.2.1 q.2.2.2) k (x1, x2, x3, G)) K → W p l e rm_X10_weakest s m args below meth c H locs 0 0 Q (F0 m 6 ls []) := by
  intro k
  induction k with
  | zero =>
    intro x1 x2 x3 G H locs ls hw hl hok
    exact gOk_iter0 hok
  | succ k hc =>
    intro x1 x2 x3 G H locs ls hw hl hok
    exact w_b_X10_weakest_6 fx n x0 x1 x2 x3 h0 hw hl (gOk_iter hok) hc hx0
set_option maxHeartbeats 4000000 in
set_option maxRecDepth 100000 in
theorem c_X10_weakest (l : Launch) (X : gX) (τ : gτ) (n : Nat) (x0 : Nat) (G : gG) (h0 : gK τ x0 10) {r : Int32} {G' : gG} (h : f_X10_weakest τ n x0 G = some (r, G')) : gM l X τ yX10_weakest cX10_weakest 6 (some .int) rm_X10_weakest [.ref x0] G (some (.int r)) G' := by
  refine g_body (by decide +kernel) (Nat.le_of_ble_eq_true rfl) ?_
  intro p e s m args below meth c ls fx hr hw hl
  have fx : gFx X p s m args meth c cX10_weakest 6 RX10 := fx
  have hl : lv_has ls 6 [(0, .ref x0)] := hl
  have hok : gOk (f_X10_weakest τ n x0 G) (fun q => q = (r, G')) := ⟨_, h, rfl⟩
  unfold f_X10_weakest at hok
  show W p l e rm_X10_weakest s m args below meth c s.heap [] 0 0 (MQ below (gQ X τ (some (.int r)) G') args s 0 0 (gFree X)) _
  refine lv_iconst (v := (-1)) fx.1 fx.2.1 dX10_weakest_0 (by decide) ?_
  refine lv_istore_n (lv' := [(1, .int (-1 : Int32)), (0, .ref x0)]) fx.1 fx.2.1 dX10_weakest_1 rfl hl (by decide) rfl (fun ls hl => ?_)
  refine lv_iconst (v := 0) fx.1 fx.2.1 dX10_weakest_2 (by decide) ?_
  refine lv_istore_n (lv' := [(2, .int (0 : Int32)), (1, .int (-1 : Int32)), (0, .ref x0)]) fx.1 fx.2.1 dX10_weakest_3 rfl hl (by decide) rfl (fun ls hl => ?_)
  refine lv_iconst (v := 0) fx.1 fx.2.1 dX10_weakest_4 (by decide) ?_
  refine lv_istore_n (lv' := [(3, .int (0 : Int32)), (2, .int (0 : Int32)), (1, .int (-1 : Int32)), (0, .ref x0)]) fx.1 fx.2.1 dX10_weakest_5 rfl hl (by decide) rfl (fun ls hl => ?_)
  refine w_l_X10_weakest_6 fx n x0 h0 ?_ n (-1 : Int32) (0 : Int32) (0 : Int32) G _ _ _  hw (lv_sub hl [3, 2, 1, 0] rfl) (gOk_bindK hok)
  intro z13 G14 H locs ls hw hl hok
  have hok : gOk (ρ := Int32 × gG) (some (z13, G14)) _ := hok
  refine lv_iload_n fx.1 fx.2.1 dX10_weakest_79 rfl (lv_at hl 0 rfl) ?_
  cases gOk_some hok
  exact g_iret fx hw hr dX10_weakest_80
theorem dX10_sumBearings_0 : decode cX10_sumBearings 0 = .ok (.iconst 1, 1) := by decide +kernel
theorem dX10_sumBearings_1 : decode cX10_sumBearings 1 = .ok (.istore_n 1, 1) := by decide +kernel
theorem dX10_sumBearings_2 : decode cX10_sumBearings 2 = .ok (.aload_n 0, 1) := by decide +kernel
theorem dX10_sumBearings_3 : decode cX10_sumBearings 3 = .ok (.getfield 64, 3) := by decide +kernel
theorem dX10_sumBearings_6 : decode cX10_sumBearings 6 = .ok (.iconst 0, 1) := by decide +kernel
theorem dX10_sumBearings_7 : decode cX10_sumBearings 7 = .ok (.iconst 0, 1) := by decide +kernel
theorem dX10_sumBearings_8 : decode cX10_sumBearings 8 = .ok (.iastore, 1) := by decide +kernel
theorem dX10_sumBearings_9 : decode cX10_sumBearings 9 = .ok (.iconst 0, 1) := by decide +kernel
theorem dX10_sumBearings_10 : decode cX10_sumBearings 10 = .ok (.istore_n 2, 1) := by decide +kernel
theorem dX10_sumBearings_11 : decode cX10_sumBearings 11 = .ok (.iload_n 2, 1) := by decide +kernel
theorem dX10_sumBearings_12 : decode cX10_sumBearings 12 = .ok (.aload_n 0, 1) := by decide +kernel
theorem dX10_sumBearings_13 : decode cX10_sumBearings 13 = .ok (.getfield 70, 3) := by decide +kernel
theorem dX10_sumBearings_16 : decode cX10_sumBearings 16 = .ok (.getfield 286, 3) := by decide +kernel
theorem dX10_sumBearings_19 : decode cX10_sumBearings 19 = .ok (.if_icmp .ge 67, 3) := by decide +kernel
theorem dX10_sumBearings_22 : decode cX10_sumBearings 22 = .ok (.aload_n 0, 1) := by decide +kernel
theorem dX10_sumBearings_23 : decode cX10_sumBearings 23 = .ok (.getfield 70, 3) := by decide +kernel
theorem dX10_sumBearings_26 : decode cX10_sumBearings 26 = .ok (.aload_n 0, 1) := by decide +kernel
theorem dX10_sumBearings_27 : decode cX10_sumBearings 27 = .ok (.getfield 70, 3) := by decide +kernel
theorem dX10_sumBearings_30 : decode cX10_sumBearings 30 = .ok (.getfield 325, 3) := by decide +kernel
theorem dX10_sumBearings_33 : decode cX10_sumBearings 33 = .ok (.iload_n 2, 1) := by decide +kernel
theorem dX10_sumBearings_34 : decode cX10_sumBearings 34 = .ok (.aaload, 1) := by decide +kernel
theorem dX10_sumBearings_35 : decode cX10_sumBearings 35 = .ok (.aload_n 0, 1) := by decide +kernel
theorem dX10_sumBearings_36 : decode cX10_sumBearings 36 = .ok (.getfield 76, 3) := by decide +kernel
theorem dX10_sumBearings_39 : decode cX10_sumBearings 39 = .ok (.invokevirtual 191, 3) := by decide +kernel
theorem dX10_sumBearings_42 : decode cX10_sumBearings 42 = .ok (.istore_n 3, 1) := by decide +kernel
theorem dX10_sumBearings_43 : decode cX10_sumBearings 43 = .ok (.iconst 0, 1) := by decide +kernel
theorem dX10_sumBearings_44 : decode cX10_sumBearings 44 = .ok (.istore 4, 2) := by decide +kernel
theorem dX10_sumBearings_46 : decode cX10_sumBearings 46 = .ok (.iload 4, 2) := by decide +kernel
theorem dX10_sumBearings_48 : decode cX10_sumBearings 48 = .ok (.iload_n 1, 1) := by decide +kernel
theorem dX10_sumBearings_49 : decode cX10_sumBearings 49 = .ok (.if_icmp .ge 27, 3) := by decide +kernel
theorem dX10_sumBearings_52 : decode cX10_sumBearings 52 = .ok (.aload_n 0, 1) := by decide +kernel
theorem dX10_sumBearings_53 : decode cX10_sumBearings 53 = .ok (.getfield 64, 3) := by decide +kernel
theorem dX10_sumBearings_56 : decode cX10_sumBearings 56 = .ok (.iload_n 1, 1) := by decide +kernel
theorem dX10_sumBearings_57 : decode cX10_sumBearings 57 = .ok (.iload 4, 2) := by decide +kernel
theorem dX10_sumBearings_59 : decode cX10_sumBearings 59 = .ok (.iadd, 1) := by decide +kernel
theorem dX10_sumBearings_60 : decode cX10_sumBearings 60 = .ok (.aload_n 0, 1) := by decide +kernel
theorem dX10_sumBearings_61 : decode cX10_sumBearings 61 = .ok (.getfield 64, 3) := by decide +kernel
theorem dX10_sumBearings_64 : decode cX10_sumBearings 64 = .ok (.iload 4, 2) := by decide +kernel
theorem dX10_sumBearings_66 : decode cX10_sumBearings 66 = .ok (.iaload, 1) := by decide +kernel
theorem dX10_sumBearings_67 : decode cX10_sumBearings 67 = .ok (.iload_n 3, 1) := by decide +kernel
theorem dX10_sumBearings_68 : decode cX10_sumBearings 68 = .ok (.iadd, 1) := by decide +kernel
theorem dX10_sumBearings_69 : decode cX10_sumBearings 69 = .ok (.iastore, 1) := by decide +kernel
theorem dX10_sumBearings_70 : decode cX10_sumBearings 70 = .ok (.iinc 4 1, 3) := by decide +kernel
theorem dX10_sumBearings_73 : decode cX10_sumBearings 73 = .ok (.goto (-27), 3) := by decide +kernel
theorem dX10_sumBearings_76 : decode cX10_sumBearings 76 = .ok (.iload_n 1, 1) := by decide +kernel
theorem dX10_sumBearings_77 : decode cX10_sumBearings 77 = .ok (.iconst 2, 1) := by decide +kernel
theorem dX10_sumBearings_78 : decode cX10_sumBearings 78 = .ok (.imul, 1) := by decide +kernel
theorem dX10_sumBearings_79 : decode cX10_sumBearings 79 = .ok (.istore_n 1, 1) := by decide +kernel
theorem dX10_sumBearings_80 : decode cX10_sumBearings 80 = .ok (.iinc 2 1, 3) := by decide +kernel
theorem dX10_sumBearings_83 : decode cX10_sumBearings 83 = .ok (.goto (-72), 3) := by decide +kernel
theorem dX10_sumBearings_86 : decode cX10_sumBearings 86 = .ok (.iload_n 1, 1) := by decide +kernel
theorem dX10_sumBearings_87 : decode cX10_sumBearings 87 = .ok (.ireturn, 1) := by decide +kernel
def rm_X10_sumBearings : Room := { frames := 4, cells := 0, slots := 0, locals := 97 }
def b_X10_sumBearings_46 (τ : gτ) (n : Nat) (x0 : Nat) (x1 : Int32) (x2 : Int32) (x3 : Int32) (x4 : Int32) (G : gG) : Option ((Int32 × gG) ⊕ ((gG))) :=
  if x1 ≤ x4 then (some (.inr G))
  else ((gr G 10 8 x0).bind fun a11 =>
  (gr G 10 8 x0).bind fun a12 =>
  gchk (gIn x4 (gn τ a12)) <|
  gchk (gIn (x1 + x4) (gn τ a11)) <| gLet (gse G a11 (Int32.toNatClampNeg (x1 + x4)) ((ge G a12 (Int32.toNatClampNeg x4)) + x3)) fun G13 =>
  gLet (x4 + 1) fun v14 =>
  some (.inl (v14, G13)))
def l_X10_sumBearings_46 (τ : gτ) (n : Nat) (x0 : Nat) (x1 : Int32) (x2 : Int32) (x3 : Int32) (x4 : Int32) (G : gG) : Option ((gG)) :=
  gIter (fun (q : Int32 × gG) => b_X10_sumBearings_46 τ n x0 x1 x2 x3 q.1 q.2) n (x4, G)
def k_X10_sumBearings_76 (τ : gτ) (n : Nat) (x0 : Nat) (x1 : Int32) (x2 : Int32)  (G : gG) : Option ((Int32 × Int32 × gG) ⊕ ((Int32 × gG))) :=
  gLet (x1 * (2 : Int32)) fun v16 =>
  gLet (x2 + 1) fun v17 =>
  some (.inl (v16, v17, G))
def b_X10_sumBearings_11 (τ : gτ) (n : Nat) (x0 : Nat) (x1 : Int32) (x2 : Int32) (G : gG) : Option ((Int32 × Int32 × gG) ⊕ ((Int32 × gG))) :=
  (gr G 10 10 x0).bind fun a3 =>
  if (gi G 6 5 a3) ≤ x2 then (some (.inr (x1, G)))
  else ((gr G 10 10 x0).bind fun a4 =>
  (gr G 10 10 x0).bind fun a5 =>
  (gr G 6 1 a5).bind fun a6 =>
  gchk (gIn x2 (gn τ a6)) <| (gq G a6 (Int32.toNatClampNeg x2)).bind fun a7 =>
  (gr G 10 12 x0).bind fun a8 =>
  gBind2 (f_X6_bearing τ n a4 a7 a8 G) fun v9 G10 =>
  (l_X10_sumBearings_46 τ n x0 x1 x2 v9 (0 : Int32) G10).bind fun q => gLet q fun G15 => 
  k_X10_sumBearings_76 τ n x0 x1 x2  G15)
def l_X10_sumBearings_11 (τ : gτ) (n : Nat) (x0 : Nat) (x1 : Int32) (x2 : Int32) (G : gG) : Option ((Int32 × gG)) :=
  gIter (fun (q : Int32 × Int32 × gG) => b_X10_sumBearings_11 τ n x0 q.1 q.2.1 q.2.2) n (x1, x2, G)
def f_X10_sumBearings (τ : gτ) (n : Nat) (x0 : Nat) (G : gG) : Option (Int32 × gG) :=
  (gr G 10 8 x0).bind fun a1 =>
  gchk (gIn (0 : Int32) (gn τ a1)) <| gLet (gse G a1 (Int32.toNatClampNeg (0 : Int32)) (0 : Int32)) fun G2 =>
  (l_X10_sumBearings_11 τ n x0 (1 : Int32) (0 : Int32) G2).bind fun q => gLet q.1 fun z18 => gLet q.2 fun G19 => 
  some (z18, G19)
set_option maxHeartbeats 4000000 in
set_option maxRecDepth 100000 in
theorem w_b_X10_sumBearings_46 {X : gX} {τ : gτ} {p : Program} {l : Launch} {e : Env} {s : State} {m : MethodId} {args : Array Value} {below : List Frame} {meth : Method} {c : Code} (fx : gFx X p s m args meth c cX10_sumBearings 5 RX10) (n : Nat) (x0 : Nat) (x1 : Int32) (x2 : Int32) (x3 : Int32) (x4 : Int32) (h0 : gK τ x0 10) {Q : State → Prop} {K : ((Int32 × gG) ⊕ ((gG))) → Prop} {G : gG} {H : Heap} {locs : List Loc} {ls : Array Slot} (hw : gHw X τ G H locs) (hl : lv_has ls 5 [(0, .ref x0), (1, .int x1), (2, .int x2), (3, .int x3), (4, .int x4)]) (hok : gOk (b_X10_sumBearings_46 τ n x0 x1 x2 x3 x4 G) K) (hc : ∀ (y4 : Int32) (G : gG) (H : Heap) (locs : List Loc) (ls : Array Slot), gHw X τ G H locs → lv_has ls 5 [(0, .ref x0), (1, .int x1), (2, .int x2), (3, .int x3), (4, .int y4)] → K (.inl (y4, G)) → W p l e rm_X10_sumBearings s m args below meth c H locs 0 0 Q (F0 m 46 ls [])) (hx0 : ∀ (G : gG) (H : Heap) (locs : List Loc) (ls : Array Slot), gHw X τ G H locs → lv_has ls 5 [(0, .ref x0), (1, .int x1), (2, .int x2)] → K (.inr G) → W p l e rm_X10_sumBearings s m args below meth c H locs 0 0 Q (F0 m 76 ls [])) : W p l e rm_X10_sumBearings s m args below meth c H locs 0 0 Q (F0 m 46 ls []) := by
  unfold b_X10_sumBearings_46 at hok
  refine lv_iload fx.1 fx.2.1 dX10_sumBearings_46 (lv_at hl 4 rfl) ?_
  refine lv_iload_n fx.1 fx.2.1 dX10_sumBearings_48 rfl (lv_at hl 1 rfl) ?_
  refine g_icmp_ge (tgt := 76) fx dX10_sumBearings_49 (by decide) hok (fun hok => ?_) (fun hok => ?_)
  · exact hx0  G _ _ _  hw (lv_sub hl [0, 1, 2] rfl) (gOk_some hok)
  · refine lv_aload_n fx.1 fx.2.1 dX10_sumBearings_52 rfl (lv_at hl 0 rfl) ?_
    refine g_getr fx hw h0 lf_RX10_64 rfl dX10_sumBearings_53 hok (fun a11 h_a11 hok => ?_)
    refine lv_iload_n fx.1 fx.2.1 dX10_sumBearings_56 rfl (lv_at hl 1 rfl) ?_
    refine lv_iload fx.1 fx.2.1 dX10_sumBearings_57 (lv_at hl 4 rfl) ?_
    refine lv_iadd fx.1 fx.2.1 dX10_sumBearings_59 ?_
    refine lv_aload_n fx.1 fx.2.1 dX10_sumBearings_60 rfl (lv_at hl 0 rfl) ?_
    refine g_getr fx hw h0 lf_RX10_64 rfl dX10_sumBearings_61 hok (fun a12 h_a12 hok => ?_)
    refine lv_iload fx.1 fx.2.1 dX10_sumBearings_64 (lv_at hl 4 rfl) ?_
    refine g_iald fx hw h_a12 dX10_sumBearings_66 hok (fun hok => ?_)
    refine lv_iload_n fx.1 fx.2.1 dX10_sumBearings_67 rfl (lv_at hl 3 rfl) ?_
    refine lv_iadd fx.1 fx.2.1 dX10_sumBearings_68 ?_
    refine g_iast fx hw h_a11 dX10_sumBearings_69 hok (fun G13 H locs hw hok => ?_)
    obtain ⟨v14, e_v14, hok⟩ := gOk_let hok
    refine lv_iinc (v := v14) (lv' := [(4, .int v14), (0, .ref x0), (1, .int x1), (2, .int x2), (3, .int x3)]) fx.1 fx.2.1 dX10_sumBearings_70 hl (k := 4) rfl (by rw [e_v14]; rfl) (by decide) rfl (fun ls hl => ?_)
    refine lv_goto (tgt := 46) fx.1 fx.2.1 dX10_sumBearings_73 (by decide) ?_
    exact hc v14 G13 _ _ _  hw (lv_sub hl [1, 2, 3, 4, 0] rfl) (gOk_some hok)
theorem w_l_X10_sumBearings_46 {X : gX} {τ : gτ} {p : Program} {l : Launch} {e : Env} {s : State} {m : MethodId} {args : Array Value} {below : List Frame} {meth : Method} {c : Code} (fx : gFx X p s m args meth c cX10_sumBearings 5 RX10) (n : Nat) (x0 : Nat) (x1 : Int32) (x2 : Int32) (x3 : Int32) (h0 : gK τ x0 10) {Q : State → Prop} {K : ((gG)) → Prop} (hx0 : ∀ (G : gG) (H : Heap) (locs : List Loc) (ls : Array Slot), gHw X τ G H locs → lv_has ls 5 [(0, .ref x0), (1, .int x1), (2, .int x2)] → K G → W p l e rm_X10_sumBearings s m args below meth c H locs 0 0 Q (F0 m 76 ls [])) : ∀ (k : Nat) (x4 : Int32) (G : gG) (H : Heap) (locs : List Loc) (ls : Array Slot), gHw X τ G H locs → lv_has ls 5 [(0, .ref x0), (1, .int x1), (2, .int x2), (3, .int x3), (4, .int x4)] → gOk (gIter (fun (q : Int32 × gG) => b_X10_sumBearings_46 τ n x0 x1 x2 x3 q.1 q.2) k (x4, G)) K → W p l e rm_X10_sumBearings s m args below meth c H locs 0 0 Q (F0 m 46 ls []) := by
  intro k
  induction k with
  | zero =>
    intro x4 G H locs ls hw hl hok
    exact gOk_iter0 hok
  | succ k hc =>
    intro x4 G H locs ls hw hl hok
    exact w_b_X10_sumBearings_46 fx n x0 x1 x2 x3 x4 h0 hw hl (gOk_iter hok) hc hx0
set_option maxHeartbeats 4000000 in
set_option maxRecDepth 100000 in
theorem w_X10_sumBearings_76 {X : gX} {τ : gτ} {p : Program} {l : Launch} {e : Env} {s : State} {m : MethodId} {args : Array Value} {below : List Frame} {meth : Method} {c : Code} (fx : gFx X p s m args meth c cX10_sumBearings 5 RX10) (n : Nat) (x0 : Nat) (x1 : Int32) (x2 : Int32)  (h0 : gK τ x0 10)  {Q : State → Prop} {K : ((Int32 × Int32 × gG) ⊕ ((Int32 × gG))) → Prop} {G : gG} {H : Heap} {locs : List Loc} {ls : Array Slot} (hw : gHw X τ G H locs) (hl : lv_has ls 5 [(0, .ref x0), (1, .int x1), (2, .int x2)]) (hok : gOk (k_X10_sumBearings_76 τ n x0 x1 x2  G) K) (hc : ∀ (y1 : Int32) (y2 : Int32) (G : gG) (H : Heap) (locs : List Loc) (ls : Array Slot), gHw X τ G H locs → lv_has ls 5 [(0, .ref x0), (1, .int y1), (2, .int y2)] → K (.inl (y1, y2, G)) → W p l e rm_X10_sumBearings s m args below meth c H locs 0 0 Q (F0 m 11 ls [])) (hx0 : ∀ (y1 : Int32) (G : gG) (H : Heap) (locs : List Loc) (ls : Array Slot), gHw X τ G H locs → lv_has ls 5 [(1, .int y1)] → K (.inr (y1, G)) → W p l e rm_X10_sumBearings s m args below meth c H locs 0 0 Q (F0 m 86 ls [])) : W p l e rm_X10_sumBearings s m args below meth c H locs 0 0 Q (F0 m 76 ls []) := by
  unfold k_X10_sumBearings_76 at hok
  refine lv_iload_n fx.1 fx.2.1 dX10_sumBearings_76 rfl (lv_at hl 1 rfl) ?_
  refine lv_iconst (v := 2) fx.1 fx.2.1 dX10_sumBearings_77 (by decide) ?_
  refine lv_imul fx.1 fx.2.1 dX10_sumBearings_78 ?_
  refine g_leti hok (fun v16 hok => ?_)
  refine lv_istore_n (lv' := [(1, .int v16), (0, .ref x0), (2, .int x2)]) fx.1 fx.2.1 dX10_sumBearings_79 rfl hl (by decide) rfl (fun ls hl => ?_)
  obtain ⟨v17, e_v17, hok⟩ := gOk_let hok
  refine lv_iinc (v := v17) (lv' := [(2, .int v17), (1, .int v16), (0, .ref x0)]) fx.1 fx.2.1 dX10_sumBearings_80 hl (k := 2) rfl (by rw [e_v17]; rfl) (by decide) rfl (fun ls hl => ?_)
  refine lv_goto (tgt := 11) fx.1 fx.2.1 dX10_sumBearings_83 (by decide) ?_
  exact hc v16 v17 G _ _ _  hw (lv_sub hl [2, 1, 0] rfl) (gOk_some hok)
set_option maxHeartbeats 4000000 in
set_option maxRecDepth 100000 in
theorem w_b_X10_sumBearings_11 {X : gX} {τ : gτ} {p : Program} {l : Launch} {e : Env} {s : State} {m : MethodId} {args : Array Value} {below : List Frame} {meth : Method} {c : Code} (fx : gFx X p s m args meth c cX10_sumBearings 5 RX10) (n : Nat) (x0 : Nat) (x1 : Int32) (x2 : Int32) (h0 : gK τ x0 10) {Q : State → Prop} {K : ((Int32 × Int32 × gG) ⊕ ((Int32 × gG))) → Prop} {G : gG} {H : Heap} {locs : List Loc} {ls : Array Slot} (hw : gHw X τ G H locs) (hl : lv_has ls 5 [(0, .ref x0), (1, .int x1), (2, .int x2)]) (hok : gOk (b_X10_sumBearings_11 τ n x0 x1 x2 G) K) (hc : ∀ (y1 : Int32) (y2 : Int32) (G : gG) (H : Heap) (locs : List Loc) (ls : Array Slot), gHw X τ G H locs → lv_has ls 5 [(0, .ref x0), (1, .int y1), (2, .int y2)] → K (.inl (y1, y2, G)) → W p l e rm_X10_sumBearings s m args below meth c H locs 0 0 Q (F0 m 11 ls [])) (hx0 : ∀ (y1 : Int32) (G : gG) (H : Heap) (locs : List Loc) (ls : Array Slot), gHw X τ G H locs → lv_has ls 5 [(1, .int y1)] → K (.inr (y1, G)) → W p l e rm_X10_sumBearings s m args below meth c H locs 0 0 Q (F0 m 86 ls [])) : W p l e rm_X10_sumBearings s m args below meth c H locs 0 0 Q (F0 m 11 ls []) := by
  unfold b_X10_sumBearings_11 at hok
  refine lv_iload_n fx.1 fx.2.1 dX10_sumBearings_11 rfl (lv_at hl 2 rfl) ?_
  refine lv_aload_n fx.1 fx.2.1 dX10_sumBearings_12 rfl (lv_at hl 0 rfl) ?_
  refine g_getr fx hw h0 lf_RX10_70 rfl dX10_sumBearings_13 hok (fun a3 h_a3 hok => ?_)
  refine g_geti fx hw h_a3 lf_RX10_286 rfl dX10_sumBearings_16 ?_
  refine g_icmp_ge (tgt := 86) fx dX10_sumBearings_19 (by decide) hok (fun hok => ?_) (fun hok => ?_)
  · exact hx0 x1 G _ _ _  hw (lv_sub hl [1] rfl) (gOk_some hok)
  · refine lv_aload_n fx.1 fx.2.1 dX10_sumBearings_22 rfl (lv_at hl 0 rfl) ?_
    refine g_getr fx hw h0 lf_RX10_70 rfl dX10_sumBearings_23 hok (fun a4 h_a4 hok => ?_)
    refine lv_aload_n fx.1 fx.2.1 dX10_sumBearings_26 rfl (lv_at hl 0 rfl) ?_
    refine g_getr fx hw h0 lf_RX10_70 rfl dX10_sumBearings_27 hok (fun a5 h_a5 hok => ?_)
    refine g_getr fx hw h_a5 lf_RX10_325 rfl dX10_sumBearings_30 hok (fun a6 h_a6 hok => ?_)
    refine lv_iload_n fx.1 fx.2.1 dX10_sumBearings_33 rfl (lv_at hl 2 rfl) ?_
    refine g_aald fx hw 15 3 h_a6 (by decide) (by decide) rfl (κ' := 5) rfl dX10_sumBearings_34 hok (fun a7 h_a7 hok => ?_)
    refine lv_aload_n fx.1 fx.2.1 dX10_sumBearings_35 rfl (lv_at hl 0 rfl) ?_
    refine g_getr fx hw h0 lf_RX10_76 rfl dX10_sumBearings_36 hok (fun a8 h_a8 hok => ?_)
    obtain ⟨v9, G10, hf, hok⟩ := gOk_bind2 hok
    refine g_callV0 (κ := 6) fx hw (c_X6_bearing l X τ n a4 a7 a8 G h_a4 h_a7 h_a8 hf) lv_RX10_191 ⟨rfl, rfl⟩ rfl rfl h_a4 rfl hl.1 rfl ⟨Nat.le_of_ble_eq_true rfl, Nat.le_of_ble_eq_true rfl⟩ (Nat.le_of_ble_eq_true rfl) ⟨Nat.le_of_ble_eq_true rfl, Nat.le_of_ble_eq_true rfl⟩ dX10_sumBearings_39 (fun H locs hw => ?_)
    refine lv_istore_n (lv' := [(3, .int v9), (0, .ref x0), (1, .int x1), (2, .int x2)]) fx.1 fx.2.1 dX10_sumBearings_42 rfl hl (by decide) rfl (fun ls hl => ?_)
    refine lv_iconst (v := 0) fx.1 fx.2.1 dX10_sumBearings_43 (by decide) ?_
    refine lv_istore (lv' := [(4, .int (0 : Int32)), (3, .int v9), (0, .ref x0), (1, .int x1), (2, .int x2)]) fx.1 fx.2.1 dX10_sumBearings_44 hl (by decide) rfl (fun ls hl => ?_)
    refine w_l_X10_sumBearings_46 fx n x0 x1 x2 v9 h0 ?_ n (0 : Int32) G10 _ _ _  hw (lv_sub hl [2, 3, 4, 1, 0] rfl) (gOk_bindK hok)
    intro G15 H locs ls hw hl hok
    have hok : gOk (ρ := (Int32 × Int32 × gG) ⊕ ((Int32 × gG))) (k_X10_sumBearings_76 τ n x0 x1 x2  G15) _ := hok
    exact w_X10_sumBearings_76 fx n x0 x1 x2  h0  hw (lv_sub hl [0, 1, 2] rfl) hok hc hx0
theorem w_l_X10_sumBearings_11 {X : gX} {τ : gτ} {p : Program} {l : Launch} {e : Env} {s : State} {m : MethodId} {args : Array Value} {below : List Frame} {meth : Method} {c : Code} (fx : gFx X p s m args meth c cX10_sumBearings 5 RX10) (n : Nat) (x0 : Nat) (h0 : gK τ x0 10) {Q : State → Prop} {K : ((Int32 × gG)) → Prop} (hx0 : ∀ (y1 : Int32) (G : gG) (H : Heap) (locs : List Loc) (ls : Array Slot), gHw X τ G H locs → lv_has ls 5 [(1, .int y1)] → K (y1, G) → W p l e rm_X10_sumBearings s m args below meth c H locs 0 0 Q (F0 m 86 ls [])) : ∀ (k : Nat) (x1 : Int32) (x2 : Int32) (G : gG) (H : Heap) (locs : List Loc) (ls : Array Slot), gHw X τ G H locs → lv_has ls 5 [(0, .ref x0), (1, .int x1), (2, .int x2)] → gOk (gIter (fun (q : Int32 × Int32 × gG) => b_X10_sumBearings_11 τ n x0 q.1 q.2.1 q.2.2) k (x1, x2, G)) K → W p l e rm_X10_sumBearings s m args below meth c H locs 0 0 Q (F0 m 11 ls []) := by
  intro k
  induction k with
  | zero =>
    intro x1 x2 G H locs ls hw hl hok
    exact gOk_iter0 hok
  | succ k hc =>
    intro x1 x2 G H locs ls hw hl hok
    exact w_b_X10_sumBearings_11 fx n x0 x1 x2 h0 hw hl (gOk_iter hok) hc hx0
set_option maxHeartbeats 4000000 in
set_option maxRecDepth 100000 in
theorem c_X10_sumBearings (l : Launch) (X : gX) (τ : gτ) (n : Nat) (x0 : Nat) (G : gG) (h0 : gK τ x0 10) {r : Int32} {G' : gG} (h : f_X10_sumBearings τ n x0 G = some (r, G')) : gM l X τ yX10_sumBearings cX10_sumBearings 5 (some .int) rm_X10_sumBearings [.ref x0] G (some (.int r)) G' := by
  refine g_body (by decide +kernel) (Nat.le_of_ble_eq_true rfl) ?_
  intro p e s m args below meth c ls fx hr hw hl
  have fx : gFx X p s m args meth c cX10_sumBearings 5 RX10 := fx
  have hl : lv_has ls 5 [(0, .ref x0)] := hl
  have hok : gOk (f_X10_sumBearings τ n x0 G) (fun q => q = (r, G')) := ⟨_, h, rfl⟩
  unfold f_X10_sumBearings at hok
  show W p l e rm_X10_sumBearings s m args below meth c s.heap [] 0 0 (MQ below (gQ X τ (some (.int r)) G') args s 0 0 (gFree X)) _
  refine lv_iconst (v := 1) fx.1 fx.2.1 dX10_sumBearings_0 (by decide) ?_
  refine lv_istore_n (lv' := [(1, .int (1 : Int32)), (0, .ref x0)]) fx.1 fx.2.1 dX10_sumBearings_1 rfl hl (by decide) rfl (fun ls hl => ?_)
  refine lv_aload_n fx.1 fx.2.1 dX10_sumBearings_2 rfl (lv_at hl 1 rfl) ?_
  refine g_getr fx hw h0 lf_RX10_64 rfl dX10_sumBearings_3 hok (fun a1 h_a1 hok => ?_)
  refine lv_iconst (v := 0) fx.1 fx.2.1 dX10_sumBearings_6 (by decide) ?_
  refine lv_iconst (v := 0) fx.1 fx.2.1 dX10_sumBearings_7 (by decide) ?_
  refine g_iast fx hw h_a1 dX10_sumBearings_8 hok (fun G2 H locs hw hok => ?_)
  refine lv_iconst (v := 0) fx.1 fx.2.1 dX10_sumBearings_9 (by decide) ?_
  refine lv_istore_n (lv' := [(2, .int (0 : Int32)), (1, .int (1 : Int32)), (0, .ref x0)]) fx.1 fx.2.1 dX10_sumBearings_10 rfl hl (by decide) rfl (fun ls hl => ?_)
  refine w_l_X10_sumBearings_11 fx n x0 h0 ?_ n (1 : Int32) (0 : Int32) G2 _ _ _  hw (lv_sub hl [2, 1, 0] rfl) (gOk_bindK hok)
  intro z18 G19 H locs ls hw hl hok
  have hok : gOk (ρ := Int32 × gG) (some (z18, G19)) _ := hok
  refine lv_iload_n fx.1 fx.2.1 dX10_sumBearings_86 rfl (lv_at hl 0 rfl) ?_
  cases gOk_some hok
  exact g_iret fx hw hr dX10_sumBearings_87
theorem dX10_fewest_0 : decode cX10_fewest 0 = .ok (.aload_n 0, 1) := by decide +kernel
theorem dX10_fewest_1 : decode cX10_fewest 1 = .ok (.getfield 70, 3) := by decide +kernel
theorem dX10_fewest_4 : decode cX10_fewest 4 = .ok (.invokevirtual 388, 3) := by decide +kernel
theorem dX10_fewest_7 : decode cX10_fewest 7 = .ok (.istore_n 1, 1) := by decide +kernel
theorem dX10_fewest_8 : decode cX10_fewest 8 = .ok (.aload_n 0, 1) := by decide +kernel
theorem dX10_fewest_9 : decode cX10_fewest 9 = .ok (.getfield 70, 3) := by decide +kernel
theorem dX10_fewest_12 : decode cX10_fewest 12 = .ok (.invokevirtual 391, 3) := by decide +kernel
theorem dX10_fewest_15 : decode cX10_fewest 15 = .ok (.istore_n 2, 1) := by decide +kernel
theorem dX10_fewest_16 : decode cX10_fewest 16 = .ok (.aload_n 0, 1) := by decide +kernel
theorem dX10_fewest_17 : decode cX10_fewest 17 = .ok (.invokevirtual 394, 3) := by decide +kernel
theorem dX10_fewest_20 : decode cX10_fewest 20 = .ok (.istore_n 3, 1) := by decide +kernel
theorem dX10_fewest_21 : decode cX10_fewest 21 = .ok (.iconst (-1), 1) := by decide +kernel
theorem dX10_fewest_22 : decode cX10_fewest 22 = .ok (.istore 4, 2) := by decide +kernel
theorem dX10_fewest_24 : decode cX10_fewest 24 = .ok (.iconst 0, 1) := by decide +kernel
theorem dX10_fewest_25 : decode cX10_fewest 25 = .ok (.istore 5, 2) := by decide +kernel
theorem dX10_fewest_27 : decode cX10_fewest 27 = .ok (.iload 5, 2) := by decide +kernel
theorem dX10_fewest_29 : decode cX10_fewest 29 = .ok (.iload_n 3, 1) := by decide +kernel
theorem dX10_fewest_30 : decode cX10_fewest 30 = .ok (.if_icmp .ge 62, 3) := by decide +kernel
theorem dX10_fewest_33 : decode cX10_fewest 33 = .ok (.iload 5, 2) := by decide +kernel
theorem dX10_fewest_35 : decode cX10_fewest 35 = .ok (.iload_n 2, 1) := by decide +kernel
theorem dX10_fewest_36 : decode cX10_fewest 36 = .ok (.iand, 1) := by decide +kernel
theorem dX10_fewest_37 : decode cX10_fewest 37 = .ok (.ifCond .ne 18, 3) := by decide +kernel
theorem dX10_fewest_40 : decode cX10_fewest 40 = .ok (.aload_n 0, 1) := by decide +kernel
theorem dX10_fewest_41 : decode cX10_fewest 41 = .ok (.getfield 64, 3) := by decide +kernel
theorem dX10_fewest_44 : decode cX10_fewest 44 = .ok (.iload 5, 2) := by decide +kernel
theorem dX10_fewest_46 : decode cX10_fewest 46 = .ok (.iaload, 1) := by decide +kernel
theorem dX10_fewest_47 : decode cX10_fewest 47 = .ok (.iload_n 1, 1) := by decide +kernel
theorem dX10_fewest_48 : decode cX10_fewest 48 = .ok (.if_icmp .lt 7, 3) := by decide +kernel
theorem dX10_fewest_51 : decode cX10_fewest 51 = .ok (.iconst 1, 1) := by decide +kernel
theorem dX10_fewest_52 : decode cX10_fewest 52 = .ok (.goto 4, 3) := by decide +kernel
theorem dX10_fewest_55 : decode cX10_fewest 55 = .ok (.iconst 0, 1) := by decide +kernel
theorem dX10_fewest_56 : decode cX10_fewest 56 = .ok (.istore 6, 2) := by decide +kernel
theorem dX10_fewest_58 : decode cX10_fewest 58 = .ok (.iload 6, 2) := by decide +kernel
theorem dX10_fewest_60 : decode cX10_fewest 60 = .ok (.ifCond .eq 26, 3) := by decide +kernel
theorem dX10_fewest_63 : decode cX10_fewest 63 = .ok (.iload 4, 2) := by decide +kernel
theorem dX10_fewest_65 : decode cX10_fewest 65 = .ok (.iconst (-1), 1) := by decide +kernel
theorem dX10_fewest_66 : decode cX10_fewest 66 = .ok (.if_icmp .eq 16, 3) := by decide +kernel
theorem dX10_fewest_69 : decode cX10_fewest 69 = .ok (.iload 5, 2) := by decide +kernel
theorem dX10_fewest_71 : decode cX10_fewest 71 = .ok (.invokestatic 350, 3) := by decide +kernel
theorem dX10_fewest_74 : decode cX10_fewest 74 = .ok (.iload 4, 2) := by decide +kernel
theorem dX10_fewest_76 : decode cX10_fewest 76 = .ok (.invokestatic 350, 3) := by decide +kernel
theorem dX10_fewest_79 : decode cX10_fewest 79 = .ok (.if_icmp .ge 7, 3) := by decide +kernel
theorem dX10_fewest_82 : decode cX10_fewest 82 = .ok (.iload 5, 2) := by decide +kernel
theorem dX10_fewest_84 : decode cX10_fewest 84 = .ok (.istore 4, 2) := by decide +kernel
theorem dX10_fewest_86 : decode cX10_fewest 86 = .ok (.iinc 5 1, 3) := by decide +kernel
theorem dX10_fewest_89 : decode cX10_fewest 89 = .ok (.goto (-62), 3) := by decide +kernel
theorem dX10_fewest_92 : decode cX10_fewest 92 = .ok (.iload 4, 2) := by decide +kernel
theorem dX10_fewest_94 : decode cX10_fewest 94 = .ok (.ireturn, 1) := by decide +kernel
theorem lv_RX10_388 : gLv RX10 388 RX6 yX6_hangingLoads cX6_hangingLoads 3 (some .int) 0 := gLv_of (wA_t (wt3 (List.mem_of_getElem? (i := 63) (by decide +kernel))) (by decide +kernel)) (wA_t (wt3 (List.mem_of_getElem? (i := 64) (by decide +kernel))) (by decide +kernel)) (wA_t (wt3 (List.mem_of_getElem? (i := 65) (by decide +kernel))) (by decide +kernel)) (wA_t (wt1 (List.mem_of_getElem? (i := 6) (by decide +kernel))) (by decide +kernel)) (wA_t (wt3 (List.mem_of_getElem? (i := 66) (by decide +kernel))) (by decide +kernel)) ⟨rfl, by decide +kernel, by decide +kernel, by decide +kernel⟩
theorem lv_RX10_391 : gLv RX10 391 RX6 yX6_brokenRopes cX6_brokenRopes 3 (some .int) 0 := gLv_of (wA_t (wt3 (List.mem_of_getElem? (i := 67) (by decide +kernel))) (by decide +kernel)) (wA_t (wt3 (List.mem_of_getElem? (i := 68) (by decide +kernel))) (by decide +kernel)) (wA_t (wt3 (List.mem_of_getElem? (i := 69) (by decide +kernel))) (by decide +kernel)) (wA_t (wt1 (List.mem_of_getElem? (i := 6) (by decide +kernel))) (by decide +kernel)) (wA_t (wt3 (List.mem_of_getElem? (i := 70) (by decide +kernel))) (by decide +kernel)) ⟨rfl, by decide +kernel, by decide +kernel, by decide +kernel⟩
theorem lv_RX10_394 : gLv RX10 394 RX10 yX10_sumBearings cX10_sumBearings 5 (some .int) 0 := gLv_of (wA_t (wt3 (List.mem_of_getElem? (i := 71) (by decide +kernel))) (by decide +kernel)) (wA_t (wt3 (List.mem_of_getElem? (i := 73) (by decide +kernel))) (by decide +kernel)) (wA_of (List.mem_append_left _ (List.mem_map.mpr ⟨(⟨"YearRope", "sumBearings", "()I"⟩, 15), wp1 (List.mem_of_getElem? (i := 7) (by decide +kernel)), rfl⟩)) (by decide +kernel)) (wA_t (wt1 (List.mem_of_getElem? (i := 1) (by decide +kernel))) (by decide +kernel)) (wA_t (wt3 (List.mem_of_getElem? (i := 74) (by decide +kernel))) (by decide +kernel)) ⟨rfl, by decide +kernel, by decide +kernel, by decide +kernel⟩
def rm_X10_fewest : Room := { frames := 5, cells := 0, slots := 0, locals := 121 }
def k_X10_fewest_82 (τ : gτ) (n : Nat) (x0 : Nat) (x1 : Int32) (x2 : Int32) (x3 : Int32) (x5 : Int32)  (G : gG) : Option ((Int32 × Int32) ⊕ ((Int32))) :=
  gLet (x5 + 1) fun v9 =>
  some (.inl (x5, v9))
def k_X10_fewest_56 (τ : gτ) (n : Nat) (x0 : Nat) (x1 : Int32) (x2 : Int32) (x3 : Int32) (x4 : Int32) (x5 : Int32) (s0 : Int32) (G : gG) : Option ((Int32 × Int32) ⊕ ((Int32))) :=
  if s0 = 0 then (gLet (x5 + 1) fun v8 =>
  some (.inl (x4, v8)))
  else (if x4 = (-1 : Int32) then (k_X10_fewest_82 τ n x0 x1 x2 x3 x5  G)
  else ((f_J6_bitCount_0f7a4 x5).bind fun v10 =>
  (f_J6_bitCount_0f7a4 x4).bind fun v11 =>
  if v11 ≤ v10 then (gLet (x5 + 1) fun v12 =>
  some (.inl (x4, v12)))
  else (k_X10_fewest_82 τ n x0 x1 x2 x3 x5  G)))
def k_X10_fewest_55 (τ : gτ) (n : Nat) (x0 : Nat) (x1 : Int32) (x2 : Int32) (x3 : Int32) (x4 : Int32) (x5 : Int32)  (G : gG) : Option ((Int32 × Int32) ⊕ ((Int32))) :=
  k_X10_fewest_56 τ n x0 x1 x2 x3 x4 x5 (0 : Int32) G
def b_X10_fewest_27 (τ : gτ) (n : Nat) (x0 : Nat) (x1 : Int32) (x2 : Int32) (x3 : Int32) (x4 : Int32) (x5 : Int32) (G : gG) : Option ((Int32 × Int32) ⊕ ((Int32))) :=
  if x3 ≤ x5 then (some (.inr x4))
  else (if (x5 &&& x2) = 0 then ((gr G 10 8 x0).bind fun a7 =>
  gchk (gIn x5 (gn τ a7)) <|
  if (ge G a7 (Int32.toNatClampNeg x5)) < x1 then (k_X10_fewest_55 τ n x0 x1 x2 x3 x4 x5  G)
  else (k_X10_fewest_56 τ n x0 x1 x2 x3 x4 x5 (1 : Int32) G))
  else (k_X10_fewest_55 τ n x0 x1 x2 x3 x4 x5  G))
def l_X10_fewest_27 (τ : gτ) (n : Nat) (x0 : Nat) (x1 : Int32) (x2 : Int32) (x3 : Int32) (x4 : Int32) (x5 : Int32) (G : gG) : Option ((Int32)) :=
  gIter (fun (q : Int32 × Int32) => b_X10_fewest_27 τ n x0 x1 x2 x3 q.1 q.2 G) n (x4, x5)
def f_X10_fewest (τ : gτ) (n : Nat) (x0 : Nat) (G : gG) : Option (Int32 × gG) :=
  (gr G 10 10 x0).bind fun a1 =>
  (f_X6_hangingLoads τ n a1 G).bind fun v2 =>
  (gr G 10 10 x0).bind fun a3 =>
  (f_X6_brokenRopes τ n a3 G).bind fun v4 =>
  gBind2 (f_X10_sumBearings τ n x0 G) fun v5 G6 =>
  (l_X10_fewest_27 τ n x0 v2 v4 v5 (-1 : Int32) (0 : Int32) G6).bind fun q => gLet q fun z13 => 
  some (z13, G6)
set_option maxHeartbeats 4000000 in
set_option maxRecDepth 100000 in
theorem w_X10_fewest_82 {X : gX} {τ : gτ} {p : Program} {l : Launch} {e : Env} {s : State} {m : MethodId} {args : Array Value} {below : List Frame} {meth : Method} {c : Code} (fx : gFx X p s m args meth c cX10_fewest 7 RX10) (n : Nat) (x0 : Nat) (x1 : Int32) (x2 : Int32) (x3 : Int32) (x5 : Int32)  (h0 : gK τ x0 10)  {Q : State → Prop} {K : ((Int32 × Int32) ⊕ ((Int32))) → Prop} {G : gG} {H : Heap} {locs : List Loc} {ls : Array Slot} (hw : gHw X τ G H locs) (hl : lv_has ls 7 [(0, .ref x0), (1, .int x1), (2, .int x2), (3, .int x3), (5, .int x5)]) (hok : gOk (k_X10_fewest_82 τ n x0 x1 x2 x3 x5  G) K) (hc : ∀ (y4 : Int32) (y5 : Int32) (H : Heap) (locs : List Loc) (ls : Array Slot), gHw X τ G H locs → lv_has ls 7 [(0, .ref x0), (1, .int x1), (2, .int x2), (3, .int x3), (4, .int y4), (5, .int y5)] → K (.inl (y4, y5)) → W p l e rm_X10_fewest s m args below meth c H locs 0 0 Q (F0 m 27 ls [])) (hx0 : ∀ (y4 : Int32) (H : Heap) (locs : List Loc) (ls : Array Slot), gHw X τ G H locs → lv_has ls 7 [(4, .int y4)] → K (.inr y4) → W p l e rm_X10_fewest s m args below meth c H locs 0 0 Q (F0 m 92 ls [])) : W p l e rm_X10_fewest s m args below meth c H locs 0 0 Q (F0 m 82 ls []) := by
  unfold k_X10_fewest_82 at hok
  refine lv_iload fx.1 fx.2.1 dX10_fewest_82 (lv_at hl 4 rfl) ?_
  refine lv_istore (lv' := [(4, .int x5), (0, .ref x0), (1, .int x1), (2, .int x2), (3, .int x3), (5, .int x5)]) fx.1 fx.2.1 dX10_fewest_84 hl (by decide) rfl (fun ls hl => ?_)
  obtain ⟨v9, e_v9, hok⟩ := gOk_let hok
  refine lv_iinc (v := v9) (lv' := [(5, .int v9), (4, .int x5), (0, .ref x0), (1, .int x1), (2, .int x2), (3, .int x3)]) fx.1 fx.2.1 dX10_fewest_86 hl (k := 5) rfl (by rw [e_v9]; rfl) (by decide) rfl (fun ls hl => ?_)
  refine lv_goto (tgt := 27) fx.1 fx.2.1 dX10_fewest_89 (by decide) ?_
  exact hc x5 v9  _ _ _  hw (lv_sub hl [2, 3, 4, 5, 1, 0] rfl) (gOk_some hok)
set_option maxHeartbeats 4000000 in
set_option maxRecDepth 100000 in
theorem w_X10_fewest_56 {X : gX} {τ : gτ} {p : Program} {l : Launch} {e : Env} {s : State} {m : MethodId} {args : Array Value} {below : List Frame} {meth : Method} {c : Code} (fx : gFx X p s m args meth c cX10_fewest 7 RX10) (n : Nat) (x0 : Nat) (x1 : Int32) (x2 : Int32) (x3 : Int32) (x4 : Int32) (x5 : Int32) (s0 : Int32) (h0 : gK τ x0 10)  {Q : State → Prop} {K : ((Int32 × Int32) ⊕ ((Int32))) → Prop} {G : gG} {H : Heap} {locs : List Loc} {ls : Array Slot} (hw : gHw X τ G H locs) (hl : lv_has ls 7 [(0, .ref x0), (1, .int x1), (2, .int x2), (3, .int x3), (4, .int x4), (5, .int x5)]) (hok : gOk (k_X10_fewest_56 τ n x0 x1 x2 x3 x4 x5 s0 G) K) (hc : ∀ (y4 : Int32) (y5 : Int32) (H : Heap) (locs : List Loc) (ls : Array Slot), gHw X τ G H locs → lv_has ls 7 [(0, .ref x0), (1, .int x1), (2, .int x2), (3, .int x3), (4, .int y4), (5, .int y5)] → K (.inl (y4, y5)) → W p l e rm_X10_fewest s m args below meth c H locs 0 0 Q (F0 m 27 ls [])) (hx0 : ∀ (y4 : Int32) (H : Heap) (locs : List Loc) (ls : Array Slot), gHw X τ G H locs → lv_has ls 7 [(4, .int y4)] → K (.inr y4) → W p l e rm_X10_fewest s m args below meth c H locs 0 0 Q (F0 m 92 ls [])) : W p l e rm_X10_fewest s m args below meth c H locs 0 0 Q (F0 m 56 ls [.int s0]) := by
  unfold k_X10_fewest_56 at hok
  refine lv_istore (lv' := [(6, .int s0), (0, .ref x0), (1, .int x1), (2, .int x2), (3, .int x3), (4, .int x4), (5, .int x5)]) fx.1 fx.2.1 dX10_fewest_56 hl (by decide) rfl (fun ls hl => ?_)
  refine lv_iload fx.1 fx.2.1 dX10_fewest_58 (lv_at hl 0 rfl) ?_
  refine g_if_eq (tgt := 86) fx dX10_fewest_60 (by decide) hok (fun hok => ?_) (fun hok => ?_)
  · obtain ⟨v8, e_v8, hok⟩ := gOk_let hok
    refine lv_iinc (v := v8) (lv' := [(5, .int v8), (6, .int s0), (0, .ref x0), (1, .int x1), (2, .int x2), (3, .int x3), (4, .int x4)]) fx.1 fx.2.1 dX10_fewest_86 hl (k := 6) rfl (by rw [e_v8]; rfl) (by decide) rfl (fun ls hl => ?_)
    refine lv_goto (tgt := 27) fx.1 fx.2.1 dX10_fewest_89 (by decide) ?_
    exact hc x4 v8  _ _ _  hw (lv_sub hl [2, 3, 4, 5, 6, 0] rfl) (gOk_some hok)
  · refine lv_iload fx.1 fx.2.1 dX10_fewest_63 (lv_at hl 5 rfl) ?_
    refine lv_iconst (v := (-1)) fx.1 fx.2.1 dX10_fewest_65 (by decide) ?_
    refine g_icmp_eq (tgt := 82) fx dX10_fewest_66 (by decide) hok (fun hok => ?_) (fun hok => ?_)
    · exact w_X10_fewest_82 fx n x0 x1 x2 x3 x5  h0  hw (lv_sub hl [1, 2, 3, 4, 6] rfl) hok hc hx0
    · refine lv_iload fx.1 fx.2.1 dX10_fewest_69 (lv_at hl 6 rfl) ?_
      obtain ⟨v10, hf, hok⟩ := gOk_bind hok
      refine g_callS0 fx hw (c_J6_bitCount_0f7a4 l X τ x5 G  hf) ls_RX10_350 ⟨rfl, rfl⟩ rfl hl.1 rfl ⟨Nat.le_of_ble_eq_true rfl, Nat.le_of_ble_eq_true rfl⟩ (Nat.le_of_ble_eq_true rfl) ⟨Nat.le_of_ble_eq_true rfl, Nat.le_of_ble_eq_true rfl⟩ dX10_fewest_71 (fun H locs hw => ?_)
      refine lv_iload fx.1 fx.2.1 dX10_fewest_74 (lv_at hl 5 rfl) ?_
      obtain ⟨v11, hf, hok⟩ := gOk_bind hok
      refine g_callS0 fx hw (c_J6_bitCount_0f7a4 l X τ x4 G  hf) ls_RX10_350 ⟨rfl, rfl⟩ rfl hl.1 rfl ⟨Nat.le_of_ble_eq_true rfl, Nat.le_of_ble_eq_true rfl⟩ (Nat.le_of_ble_eq_true rfl) ⟨Nat.le_of_ble_eq_true rfl, Nat.le_of_ble_eq_true rfl⟩ dX10_fewest_76 (fun H locs hw => ?_)
      refine g_icmp_ge (tgt := 86) fx dX10_fewest_79 (by decide) hok (fun hok => ?_) (fun hok => ?_)
      · obtain ⟨v12, e_v12, hok⟩ := gOk_let hok
        refine lv_iinc (v := v12) (lv' := [(5, .int v12), (6, .int s0), (0, .ref x0), (1, .int x1), (2, .int x2), (3, .int x3), (4, .int x4)]) fx.1 fx.2.1 dX10_fewest_86 hl (k := 6) rfl (by rw [e_v12]; rfl) (by decide) rfl (fun ls hl => ?_)
        refine lv_goto (tgt := 27) fx.1 fx.2.1 dX10_fewest_89 (by decide) ?_
        exact hc x4 v12  _ _ _  hw (lv_sub hl [2, 3, 4, 5, 6, 0] rfl) (gOk_some hok)
      · exact w_X10_fewest_82 fx n x0 x1 x2 x3 x5  h0  hw (lv_sub hl [1, 2, 3, 4, 6] rfl) hok hc hx0
set_option maxHeartbeats 4000000 in
set_option maxRecDepth 100000 in
theorem w_X10_fewest_55 {X : gX} {τ : gτ} {p : Program} {l : Launch} {e : Env} {s : State} {m : MethodId} {args : Array Value} {below : List Frame} {meth : Method} {c : Code} (fx : gFx X p s m args meth c cX10_fewest 7 RX10) (n : Nat) (x0 : Nat) (x1 : Int32) (x2 : Int32) (x3 : Int32) (x4 : Int32) (x5 : Int32)  (h0 : gK τ x0 10)  {Q : State → Prop} {K : ((Int32 × Int32) ⊕ ((Int32))) → Prop} {G : gG} {H : Heap} {locs : List Loc} {ls : Array Slot} (hw : gHw X τ G H locs) (hl : lv_has ls 7 [(0, .ref x0), (1, .int x1), (2, .int x2), (3, .int x3), (4, .int x4), (5, .int x5)]) (hok : gOk (k_X10_fewest_55 τ n x0 x1 x2 x3 x4 x5  G) K) (hc : ∀ (y4 : Int32) (y5 : Int32) (H : Heap) (locs : List Loc) (ls : Array Slot), gHw X τ G H locs → lv_has ls 7 [(0, .ref x0), (1, .int x1), (2, .int x2), (3, .int x3), (4, .int y4), (5, .int y5)] → K (.inl (y4, y5)) → W p l e rm_X10_fewest s m args below meth c H locs 0 0 Q (F0 m 27 ls [])) (hx0 : ∀ (y4 : Int32) (H : Heap) (locs : List Loc) (ls : Array Slot), gHw X τ G H locs → lv_has ls 7 [(4, .int y4)] → K (.inr y4) → W p l e rm_X10_fewest s m args below meth c H locs 0 0 Q (F0 m 92 ls [])) : W p l e rm_X10_fewest s m args below meth c H locs 0 0 Q (F0 m 55 ls []) := by
  unfold k_X10_fewest_55 at hok
  refine lv_iconst (v := 0) fx.1 fx.2.1 dX10_fewest_55 (by decide) ?_
  exact w_X10_fewest_56 fx n x0 x1 x2 x3 x4 x5 (0 : Int32) h0  hw (lv_sub hl [0, 1, 2, 3, 4, 5] rfl) hok hc hx0
set_option maxHeartbeats 4000000 in
set_option maxRecDepth 100000 in
theorem w_b_X10_fewest_27 {X : gX} {τ : gτ} {p : Program} {l : Launch} {e : Env} {s : State} {m : MethodId} {args : Array Value} {below : List Frame} {meth : Method} {c : Code} (fx : gFx X p s m args meth c cX10_fewest 7 RX10) (n : Nat) (x0 : Nat) (x1 : Int32) (x2 : Int32) (x3 : Int32) (x4 : Int32) (x5 : Int32) (h0 : gK τ x0 10) {Q : State → Prop} {K : ((Int32 × Int32) ⊕ ((Int32))) → Prop} {G : gG} {H : Heap} {locs : List Loc} {ls : Array Slot} (hw : gHw X τ G H locs) (hl : lv_has ls 7 [(0, .ref x0), (1, .int x1), (2, .int x2), (3, .int x3), (4, .int x4), (5, .int x5)]) (hok : gOk (b_X10_fewest_27 τ n x0 x1 x2 x3 x4 x5 G) K) (hc : ∀ (y4 : Int32) (y5 : Int32) (H : Heap) (locs : List Loc) (ls : Array Slot), gHw X τ G H locs → lv_has ls 7 [(0, .ref x0), (1, .int x1), (2, .int x2), (3, .int x3), (4, .int y4), (5, .int y5)] → K (.inl (y4, y5)) → W p l e rm_X10_fewest s m args below meth c H locs 0 0 Q (F0 m 27 ls [])) (hx0 : ∀ (y4 : Int32) (H : Heap) (locs : List Loc) (ls : Array Slot), gHw X τ G H locs → lv_has ls 7 [(4, .int y4)] → K (.inr y4) → W p l e rm_X10_fewest s m args below meth c H locs 0 0 Q (F0 m 92 ls [])) : W p l e rm_X10_fewest s m args below meth c H locs 0 0 Q (F0 m 27 ls []) := by
  unfold b_X10_fewest_27 at hok
  refine lv_iload fx.1 fx.2.1 dX10_fewest_27 (lv_at hl 5 rfl) ?_
  refine lv_iload_n fx.1 fx.2.1 dX10_fewest_29 rfl (lv_at hl 3 rfl) ?_
  refine g_icmp_ge (tgt := 92) fx dX10_fewest_30 (by decide) hok (fun hok => ?_) (fun hok => ?_)
  · exact hx0 x4  _ _ _  hw (lv_sub hl [4] rfl) (gOk_some hok)
  · refine lv_iload fx.1 fx.2.1 dX10_fewest_33 (lv_at hl 5 rfl) ?_
    refine lv_iload_n fx.1 fx.2.1 dX10_fewest_35 rfl (lv_at hl 2 rfl) ?_
    refine lv_iand fx.1 fx.2.1 dX10_fewest_36 ?_
    refine g_if_ne (tgt := 55) fx dX10_fewest_37 (by decide) hok (fun hok => ?_) (fun hok => ?_)
    · refine lv_aload_n fx.1 fx.2.1 dX10_fewest_40 rfl (lv_at hl 0 rfl) ?_
      refine g_getr fx hw h0 lf_RX10_64 rfl dX10_fewest_41 hok (fun a7 h_a7 hok => ?_)
      refine lv_iload fx.1 fx.2.1 dX10_fewest_44 (lv_at hl 5 rfl) ?_
      refine g_iald fx hw h_a7 dX10_fewest_46 hok (fun hok => ?_)
      refine lv_iload_n fx.1 fx.2.1 dX10_fewest_47 rfl (lv_at hl 1 rfl) ?_
      refine g_icmp_lt (tgt := 55) fx dX10_fewest_48 (by decide) hok (fun hok => ?_) (fun hok => ?_)
      · exact w_X10_fewest_55 fx n x0 x1 x2 x3 x4 x5  h0  hw (lv_sub hl [0, 1, 2, 3, 4, 5] rfl) hok hc hx0
      · refine lv_iconst (v := 1) fx.1 fx.2.1 dX10_fewest_51 (by decide) ?_
        refine lv_goto (tgt := 56) fx.1 fx.2.1 dX10_fewest_52 (by decide) ?_
        exact w_X10_fewest_56 fx n x0 x1 x2 x3 x4 x5 (1 : Int32) h0  hw (lv_sub hl [0, 1, 2, 3, 4, 5] rfl) hok hc hx0
    · exact w_X10_fewest_55 fx n x0 x1 x2 x3 x4 x5  h0  hw (lv_sub hl [0, 1, 2, 3, 4, 5] rfl) hok hc hx0
theorem w_l_X10_fewest_27 {X : gX} {τ : gτ} {p : Program} {l : Launch} {e : Env} {s : State} {m : MethodId} {args : Array Value} {below : List Frame} {meth : Method} {c : Code} (fx : gFx X p s m args meth c cX10_fewest 7 RX10) (n : Nat) (x0 : Nat) (x1 : Int32) (x2 : Int32) (x3 : Int32) (h0 : gK τ x0 10) (G : gG) {Q : State → Prop} {K : ((Int32)) → Prop} (hx0 : ∀ (y4 : Int32) (H : Heap) (locs : List Loc) (ls : Array Slot), gHw X τ G H locs → lv_has ls 7 [(4, .int y4)] → K y4 → W p l e rm_X10_fewest s m args below meth c H locs 0 0 Q (F0 m 92 ls [])) : ∀ (k : Nat) (x4 : Int32) (x5 : Int32) (H : Heap) (locs : List Loc) (ls : Array Slot), gHw X τ G H locs → lv_has ls 7 [(0, .ref x0), (1, .int x1), (2, .int x2), (3, .int x3), (4, .int x4), (5, .int x5)] → gOk (gIter (fun (q : Int32 × Int32) => b_X10_fewest_27 τ n x0 x1 x2 x3 q.1 q.2 G) k (x4, x5)) K → W p l e rm_X10_fewest s m args below meth c H locs 0 0 Q (F0 m 27 ls []) := by
  intro k
  induction k with
  | zero =>
    intro x4 x5  H locs ls hw hl hok
    exact gOk_iter0 hok
  | succ k hc =>
    intro x4 x5  H locs ls hw hl hok
    exact w_b_X10_fewest_27 fx n x0 x1 x2 x3 x4 x5 h0 hw hl (gOk_iter hok) hc hx0
set_option maxHeartbeats 4000000 in
set_option maxRecDepth 100000 in
theorem c_X10_fewest (l : Launch) (X : gX) (τ : gτ) (n : Nat) (x0 : Nat) (G : gG) (h0 : gK τ x0 10) {r : Int32} {G' : gG} (h : f_X10_fewest τ n x0 G = some (r, G')) : gM l X τ yX10_fewest cX10_fewest 7 (some .int) rm_X10_fewest [.ref x0] G (some (.int r)) G' := by
  refine g_body (by decide +kernel) (Nat.le_of_ble_eq_true rfl) ?_
  intro p e s m args below meth c ls fx hr hw hl
  have fx : gFx X p s m args meth c cX10_fewest 7 RX10 := fx
  have hl : lv_has ls 7 [(0, .ref x0)] := hl
  have hok : gOk (f_X10_fewest τ n x0 G) (fun q => q = (r, G')) := ⟨_, h, rfl⟩
  unfold f_X10_fewest at hok
  show W p l e rm_X10_fewest s m args below meth c s.heap [] 0 0 (MQ below (gQ X τ (some (.int r)) G') args s 0 0 (gFree X)) _
  refine lv_aload_n fx.1 fx.2.1 dX10_fewest_0 rfl (lv_at hl 0 rfl) ?_
  refine g_getr fx hw h0 lf_RX10_70 rfl dX10_fewest_1 hok (fun a1 h_a1 hok => ?_)
  obtain ⟨v2, hf, hok⟩ := gOk_bind hok
  refine g_callV0 (κ := 6) fx hw (c_X6_hangingLoads l X τ n a1 G h_a1 hf) lv_RX10_388 ⟨rfl, rfl⟩ rfl rfl h_a1 rfl hl.1 rfl ⟨Nat.le_of_ble_eq_true rfl, Nat.le_of_ble_eq_true rfl⟩ (Nat.le_of_ble_eq_true rfl) ⟨Nat.le_of_ble_eq_true rfl, Nat.le_of_ble_eq_true rfl⟩ dX10_fewest_4 (fun H locs hw => ?_)
  refine lv_istore_n (lv' := [(1, .int v2), (0, .ref x0)]) fx.1 fx.2.1 dX10_fewest_7 rfl hl (by decide) rfl (fun ls hl => ?_)
  refine lv_aload_n fx.1 fx.2.1 dX10_fewest_8 rfl (lv_at hl 1 rfl) ?_
  refine g_getr fx hw h0 lf_RX10_70 rfl dX10_fewest_9 hok (fun a3 h_a3 hok => ?_)
  obtain ⟨v4, hf, hok⟩ := gOk_bind hok
  refine g_callV0 (κ := 6) fx hw (c_X6_brokenRopes l X τ n a3 G h_a3 hf) lv_RX10_391 ⟨rfl, rfl⟩ rfl rfl h_a3 rfl hl.1 rfl ⟨Nat.le_of_ble_eq_true rfl, Nat.le_of_ble_eq_true rfl⟩ (Nat.le_of_ble_eq_true rfl) ⟨Nat.le_of_ble_eq_true rfl, Nat.le_of_ble_eq_true rfl⟩ dX10_fewest_12 (fun H locs hw => ?_)
  refine lv_istore_n (lv' := [(2, .int v4), (1, .int v2), (0, .ref x0)]) fx.1 fx.2.1 dX10_fewest_15 rfl hl (by decide) rfl (fun ls hl => ?_)
  refine lv_aload_n fx.1 fx.2.1 dX10_fewest_16 rfl (lv_at hl 2 rfl) ?_
  obtain ⟨v5, G6, hf, hok⟩ := gOk_bind2 hok
  refine g_callV0 (κ := 10) fx hw (c_X10_sumBearings l X τ n x0 G h0 hf) lv_RX10_394 ⟨rfl, rfl⟩ rfl rfl h0 rfl hl.1 rfl ⟨Nat.le_of_ble_eq_true rfl, Nat.le_of_ble_eq_true rfl⟩ (Nat.le_of_ble_eq_true rfl) ⟨Nat.le_of_ble_eq_true rfl, Nat.le_of_ble_eq_true rfl⟩ dX10_fewest_17 (fun H locs hw => ?_)
  refine lv_istore_n (lv' := [(3, .int v5), (2, .int v4), (1, .int v2), (0, .ref x0)]) fx.1 fx.2.1 dX10_fewest_20 rfl hl (by decide) rfl (fun ls hl => ?_)
  refine lv_iconst (v := (-1)) fx.1 fx.2.1 dX10_fewest_21 (by decide) ?_
  refine lv_istore (lv' := [(4, .int (-1 : Int32)), (3, .int v5), (2, .int v4), (1, .int v2), (0, .ref x0)]) fx.1 fx.2.1 dX10_fewest_22 hl (by decide) rfl (fun ls hl => ?_)
  refine lv_iconst (v := 0) fx.1 fx.2.1 dX10_fewest_24 (by decide) ?_
  refine lv_istore (lv' := [(5, .int (0 : Int32)), (4, .int (-1 : Int32)), (3, .int v5), (2, .int v4), (1, .int v2), (0, .ref x0)]) fx.1 fx.2.1 dX10_fewest_25 hl (by decide) rfl (fun ls hl => ?_)
  refine w_l_X10_fewest_27 fx n x0 v2 v4 v5 h0 G6 ?_ n (-1 : Int32) (0 : Int32)  _ _ _  hw (lv_sub hl [5, 4, 3, 2, 1, 0] rfl) (gOk_bindK hok)
  intro z13  H locs ls hw hl hok
  have hok : gOk (ρ := Int32 × gG) (some (z13, G6)) _ := hok
  refine lv_iload fx.1 fx.2.1 dX10_fewest_92 (lv_at hl 0 rfl) ?_
  cases gOk_some hok
  exact g_iret fx hw hr dX10_fewest_94
theorem dX10_skips_0 : decode cX10_skips 0 = .ok (.iconst 0, 1) := by decide +kernel
theorem dX10_skips_1 : decode cX10_skips 1 = .ok (.istore_n 1, 1) := by decide +kernel
theorem dX10_skips_2 : decode cX10_skips 2 = .ok (.iconst 0, 1) := by decide +kernel
theorem dX10_skips_3 : decode cX10_skips 3 = .ok (.istore_n 2, 1) := by decide +kernel
theorem dX10_skips_4 : decode cX10_skips 4 = .ok (.iload_n 2, 1) := by decide +kernel
theorem dX10_skips_5 : decode cX10_skips 5 = .ok (.aload_n 0, 1) := by decide +kernel
theorem dX10_skips_6 : decode cX10_skips 6 = .ok (.getfield 70, 3) := by decide +kernel
theorem dX10_skips_9 : decode cX10_skips 9 = .ok (.getfield 286, 3) := by decide +kernel
theorem dX10_skips_12 : decode cX10_skips 12 = .ok (.if_icmp .ge 48, 3) := by decide +kernel
theorem dX10_skips_15 : decode cX10_skips 15 = .ok (.aload_n 0, 1) := by decide +kernel
theorem dX10_skips_16 : decode cX10_skips 16 = .ok (.getfield 70, 3) := by decide +kernel
theorem dX10_skips_19 : decode cX10_skips 19 = .ok (.getfield 325, 3) := by decide +kernel
theorem dX10_skips_22 : decode cX10_skips 22 = .ok (.iload_n 2, 1) := by decide +kernel
theorem dX10_skips_23 : decode cX10_skips 23 = .ok (.aaload, 1) := by decide +kernel
theorem dX10_skips_24 : decode cX10_skips 24 = .ok (.astore_n 3, 1) := by decide +kernel
theorem dX10_skips_25 : decode cX10_skips 25 = .ok (.aload_n 3, 1) := by decide +kernel
theorem dX10_skips_26 : decode cX10_skips 26 = .ok (.invokevirtual 268, 3) := by decide +kernel
theorem dX10_skips_29 : decode cX10_skips 29 = .ok (.ifCond .eq 25, 3) := by decide +kernel
theorem dX10_skips_32 : decode cX10_skips 32 = .ok (.aload_n 3, 1) := by decide +kernel
theorem dX10_skips_33 : decode cX10_skips 33 = .ok (.getfield 169, 3) := by decide +kernel
theorem dX10_skips_36 : decode cX10_skips 36 = .ok (.iconst 2, 1) := by decide +kernel
theorem dX10_skips_37 : decode cX10_skips 37 = .ok (.if_icmp .lt 17, 3) := by decide +kernel
theorem dX10_skips_40 : decode cX10_skips 40 = .ok (.aload_n 3, 1) := by decide +kernel
theorem dX10_skips_41 : decode cX10_skips 41 = .ok (.getfield 169, 3) := by decide +kernel
theorem dX10_skips_44 : decode cX10_skips 44 = .ok (.iconst 5, 1) := by decide +kernel
theorem dX10_skips_45 : decode cX10_skips 45 = .ok (.if_icmp .gt 9, 3) := by decide +kernel
theorem dX10_skips_48 : decode cX10_skips 48 = .ok (.iload_n 1, 1) := by decide +kernel
theorem dX10_skips_49 : decode cX10_skips 49 = .ok (.iconst 1, 1) := by decide +kernel
theorem dX10_skips_50 : decode cX10_skips 50 = .ok (.iload_n 2, 1) := by decide +kernel
theorem dX10_skips_51 : decode cX10_skips 51 = .ok (.ishl, 1) := by decide +kernel
theorem dX10_skips_52 : decode cX10_skips 52 = .ok (.ior, 1) := by decide +kernel
theorem dX10_skips_53 : decode cX10_skips 53 = .ok (.istore_n 1, 1) := by decide +kernel
theorem dX10_skips_54 : decode cX10_skips 54 = .ok (.iinc 2 1, 3) := by decide +kernel
theorem dX10_skips_57 : decode cX10_skips 57 = .ok (.goto (-53), 3) := by decide +kernel
theorem dX10_skips_60 : decode cX10_skips 60 = .ok (.iload_n 1, 1) := by decide +kernel
theorem dX10_skips_61 : decode cX10_skips 61 = .ok (.ireturn, 1) := by decide +kernel
def rm_X10_skips : Room := { frames := 1, cells := 0, slots := 0, locals := 20 }
def b_X10_skips_4 (τ : gτ) (n : Nat) (x0 : Nat) (x1 : Int32) (x2 : Int32) (G : gG) : Option ((Int32 × Int32) ⊕ ((Int32))) :=
  (gr G 10 10 x0).bind fun a1 =>
  if (gi G 6 5 a1) ≤ x2 then (some (.inr x1))
  else ((gr G 10 10 x0).bind fun a2 =>
  (gr G 6 1 a2).bind fun a3 =>
  gchk (gIn x2 (gn τ a3)) <| (gq G a3 (Int32.toNatClampNeg x2)).bind fun a4 =>
  (f_X5_isFree a4 G).bind fun v5 =>
  if v5 = 0 then (gLet (x2 + 1) fun v6 =>
  some (.inl (x1, v6)))
  else (if (gi G 5 3 a4) < (2 : Int32) then (gLet (x2 + 1) fun v7 =>
  some (.inl (x1, v7)))
  else (if (5 : Int32) < (gi G 5 3 a4) then (gLet (x2 + 1) fun v8 =>
  some (.inl (x1, v8)))
  else (gLet (x1 ||| ((1 : Int32) <<< (x2 &&& 31))) fun v9 =>
  gLet (x2 + 1) fun v10 =>
  some (.inl (v9, v10))))))
def l_X10_skips_4 (τ : gτ) (n : Nat) (x0 : Nat) (x1 : Int32) (x2 : Int32) (G : gG) : Option ((Int32)) :=
  gIter (fun (q : Int32 × Int32) => b_X10_skips_4 τ n x0 q.1 q.2 G) n (x1, x2)
def f_X10_skips (τ : gτ) (n : Nat) (x0 : Nat) (G : gG) : Option (Int32) :=
  (l_X10_skips_4 τ n x0 (0 : Int32) (0 : Int32) G).bind fun q => gLet q fun z11 => 
  some (z11)
set_option maxHeartbeats 4000000 in
set_option maxRecDepth 100000 in
theorem w_b_X10_skips_4 {X : gX} {τ : gτ} {p : Program} {l : Launch} {e : Env} {s : State} {m : MethodId} {args : Array Value} {below : List Frame} {meth : Method} {c : Code} (fx : gFx X p s m args meth c cX10_skips 4 RX10) (n : Nat) (x0 : Nat) (x1 : Int32) (x2 : Int32) (h0 : gK τ x0 10) {Q : State → Prop} {K : ((Int32 × Int32) ⊕ ((Int32))) → Prop} {G : gG} {H : Heap} {locs : List Loc} {ls : Array Slot} (hw : gHw X τ G H locs) (hl : lv_has ls 4 [(0, .ref x0), (1, .int x1), (2, .int x2)]) (hok : gOk (b_X10_skips_4 τ n x0 x1 x2 G) K) (hc : ∀ (y1 : Int32) (y2 : Int32) (H : Heap) (locs : List Loc) (ls : Array Slot), gHw X τ G H locs → lv_has ls 4 [(0, .ref x0), (1, .int y1), (2, .int y2)] → K (.inl (y1, y2)) → W p l e rm_X10_skips s m args below meth c H locs 0 0 Q (F0 m 4 ls [])) (hx0 : ∀ (y1 : Int32) (H : Heap) (locs : List Loc) (ls : Array Slot), gHw X τ G H locs → lv_has ls 4 [(1, .int y1)] → K (.inr y1) → W p l e rm_X10_skips s m args below meth c H locs 0 0 Q (F0 m 60 ls [])) : W p l e rm_X10_skips s m args below meth c H locs 0 0 Q (F0 m 4 ls []) := by
  unfold b_X10_skips_4 at hok
  refine lv_iload_n fx.1 fx.2.1 dX10_skips_4 rfl (lv_at hl 2 rfl) ?_
  refine lv_aload_n fx.1 fx.2.1 dX10_skips_5 rfl (lv_at hl 0 rfl) ?_
  refine g_getr fx hw h0 lf_RX10_70 rfl dX10_skips_6 hok (fun a1 h_a1 hok => ?_)
  refine g_geti fx hw h_a1 lf_RX10_286 rfl dX10_skips_9 ?_
  refine g_icmp_ge (tgt := 60) fx dX10_skips_12 (by decide) hok (fun hok => ?_) (fun hok => ?_)
  · exact hx0 x1  _ _ _  hw (lv_sub hl [1] rfl) (gOk_some hok)
  · refine lv_aload_n fx.1 fx.2.1 dX10_skips_15 rfl (lv_at hl 0 rfl) ?_
    refine g_getr fx hw h0 lf_RX10_70 rfl dX10_skips_16 hok (fun a2 h_a2 hok => ?_)
    refine g_getr fx hw h_a2 lf_RX10_325 rfl dX10_skips_19 hok (fun a3 h_a3 hok => ?_)
    refine lv_iload_n fx.1 fx.2.1 dX10_skips_22 rfl (lv_at hl 2 rfl) ?_
    refine g_aald fx hw 15 3 h_a3 (by decide) (by decide) rfl (κ' := 5) rfl dX10_skips_23 hok (fun a4 h_a4 hok => ?_)
    refine lv_astore_n (lv' := [(3, .ref a4), (0, .ref x0), (1, .int x1), (2, .int x2)]) fx.1 fx.2.1 dX10_skips_24 rfl hl (by decide) rfl (fun ls hl => ?_)
    refine lv_aload_n fx.1 fx.2.1 dX10_skips_25 rfl (lv_at hl 0 rfl) ?_
    obtain ⟨v5, hf, hok⟩ := gOk_bind hok
    refine g_callV0 (κ := 5) fx hw (c_X5_isFree l X τ a4 G h_a4 hf) lv_RX10_268 ⟨rfl, rfl⟩ rfl rfl h_a4 rfl hl.1 rfl ⟨Nat.le_of_ble_eq_true rfl, Nat.le_of_ble_eq_true rfl⟩ (Nat.le_of_ble_eq_true rfl) ⟨Nat.le_of_ble_eq_true rfl, Nat.le_of_ble_eq_true rfl⟩ dX10_skips_26 (fun H locs hw => ?_)
    refine g_if_eq (tgt := 54) fx dX10_skips_29 (by decide) hok (fun hok => ?_) (fun hok => ?_)
    · obtain ⟨v6, e_v6, hok⟩ := gOk_let hok
      refine lv_iinc (v := v6) (lv' := [(2, .int v6), (3, .ref a4), (0, .ref x0), (1, .int x1)]) fx.1 fx.2.1 dX10_skips_54 hl (k := 3) rfl (by rw [e_v6]; rfl) (by decide) rfl (fun ls hl => ?_)
      refine lv_goto (tgt := 4) fx.1 fx.2.1 dX10_skips_57 (by decide) ?_
      exact hc x1 v6  _ _ _  hw (lv_sub hl [2, 3, 0] rfl) (gOk_some hok)
    · refine lv_aload_n fx.1 fx.2.1 dX10_skips_32 rfl (lv_at hl 0 rfl) ?_
      refine g_geti fx hw h_a4 lf_RX10_169 rfl dX10_skips_33 ?_
      refine lv_iconst (v := 2) fx.1 fx.2.1 dX10_skips_36 (by decide) ?_
      refine g_icmp_lt (tgt := 54) fx dX10_skips_37 (by decide) hok (fun hok => ?_) (fun hok => ?_)
      · obtain ⟨v7, e_v7, hok⟩ := gOk_let hok
        refine lv_iinc (v := v7) (lv' := [(2, .int v7), (3, .ref a4), (0, .ref x0), (1, .int x1)]) fx.1 fx.2.1 dX10_skips_54 hl (k := 3) rfl (by rw [e_v7]; rfl) (by decide) rfl (fun ls hl => ?_)
        refine lv_goto (tgt := 4) fx.1 fx.2.1 dX10_skips_57 (by decide) ?_
        exact hc x1 v7  _ _ _  hw (lv_sub hl [2, 3, 0] rfl) (gOk_some hok)
      · refine lv_aload_n fx.1 fx.2.1 dX10_skips_40 rfl (lv_at hl 0 rfl) ?_
        refine g_geti fx hw h_a4 lf_RX10_169 rfl dX10_skips_41 ?_
        refine lv_iconst (v := 5) fx.1 fx.2.1 dX10_skips_44 (by decide) ?_
        refine g_icmp_gt (tgt := 54) fx dX10_skips_45 (by decide) hok (fun hok => ?_) (fun hok => ?_)
        · obtain ⟨v8, e_v8, hok⟩ := gOk_let hok
          refine lv_iinc (v := v8) (lv' := [(2, .int v8), (3, .ref a4), (0, .ref x0), (1, .int x1)]) fx.1 fx.2.1 dX10_skips_54 hl (k := 3) rfl (by rw [e_v8]; rfl) (by decide) rfl (fun ls hl => ?_)
          refine lv_goto (tgt := 4) fx.1 fx.2.1 dX10_skips_57 (by decide) ?_
          exact hc x1 v8  _ _ _  hw (lv_sub hl [2, 3, 0] rfl) (gOk_some hok)
        · refine lv_iload_n fx.1 fx.2.1 dX10_skips_48 rfl (lv_at hl 2 rfl) ?_
          refine lv_iconst (v := 1) fx.1 fx.2.1 dX10_skips_49 (by decide) ?_
          refine lv_iload_n fx.1 fx.2.1 dX10_skips_50 rfl (lv_at hl 3 rfl) ?_
          refine lv_ishl fx.1 fx.2.1 dX10_skips_51 ?_
          refine lv_ior fx.1 fx.2.1 dX10_skips_52 ?_
          refine g_leti hok (fun v9 hok => ?_)
          refine lv_istore_n (lv' := [(1, .int v9), (3, .ref a4), (0, .ref x0), (2, .int x2)]) fx.1 fx.2.1 dX10_skips_53 rfl hl (by decide) rfl (fun ls hl => ?_)
          obtain ⟨v10, e_v10, hok⟩ := gOk_let hok
          refine lv_iinc (v := v10) (lv' := [(2, .int v10), (1, .int v9), (3, .ref a4), (0, .ref x0)]) fx.1 fx.2.1 dX10_skips_54 hl (k := 3) rfl (by rw [e_v10]; rfl) (by decide) rfl (fun ls hl => ?_)
          refine lv_goto (tgt := 4) fx.1 fx.2.1 dX10_skips_57 (by decide) ?_
          exact hc v9 v10  _ _ _  hw (lv_sub hl [3, 1, 0] rfl) (gOk_some hok)
theorem w_l_X10_skips_4 {X : gX} {τ : gτ} {p : Program} {l : Launch} {e : Env} {s : State} {m : MethodId} {args : Array Value} {below : List Frame} {meth : Method} {c : Code} (fx : gFx X p s m args meth c cX10_skips 4 RX10) (n : Nat) (x0 : Nat) (h0 : gK τ x0 10) (G : gG) {Q : State → Prop} {K : ((Int32)) → Prop} (hx0 : ∀ (y1 : Int32) (H : Heap) (locs : List Loc) (ls : Array Slot), gHw X τ G H locs → lv_has ls 4 [(1, .int y1)] → K y1 → W p l e rm_X10_skips s m args below meth c H locs 0 0 Q (F0 m 60 ls [])) : ∀ (k : Nat) (x1 : Int32) (x2 : Int32) (H : Heap) (locs : List Loc) (ls : Array Slot), gHw X τ G H locs → lv_has ls 4 [(0, .ref x0), (1, .int x1), (2, .int x2)] → gOk (gIter (fun (q : Int32 × Int32) => b_X10_skips_4 τ n x0 q.1 q.2 G) k (x1, x2)) K → W p l e rm_X10_skips s m args below meth c H locs 0 0 Q (F0 m 4 ls []) := by
  intro k
  induction k with
  | zero =>
    intro x1 x2  H locs ls hw hl hok
    exact gOk_iter0 hok
  | succ k hc =>
    intro x1 x2  H locs ls hw hl hok
    exact w_b_X10_skips_4 fx n x0 x1 x2 h0 hw hl (gOk_iter hok) hc hx0
set_option maxHeartbeats 4000000 in
set_option maxRecDepth 100000 in
theorem c_X10_skips (l : Launch) (X : gX) (τ : gτ) (n : Nat) (x0 : Nat) (G : gG) (h0 : gK τ x0 10) {r : Int32}  (h : f_X10_skips τ n x0 G = some r) : gM l X τ yX10_skips cX10_skips 4 (some .int) rm_X10_skips [.ref x0] G (some (.int r)) G := by
  refine g_body (by decide +kernel) (Nat.le_of_ble_eq_true rfl) ?_
  intro p e s m args below meth c ls fx hr hw hl
  have fx : gFx X p s m args meth c cX10_skips 4 RX10 := fx
  have hl : lv_has ls 4 [(0, .ref x0)] := hl
  have hok : gOk (f_X10_skips τ n x0 G) (fun q => q = r) := ⟨_, h, rfl⟩
  unfold f_X10_skips at hok
  show W p l e rm_X10_skips s m args below meth c s.heap [] 0 0 (MQ below (gQ X τ (some (.int r)) G) args s 0 0 (gFree X)) _
  refine lv_iconst (v := 0) fx.1 fx.2.1 dX10_skips_0 (by decide) ?_
  refine lv_istore_n (lv' := [(1, .int (0 : Int32)), (0, .ref x0)]) fx.1 fx.2.1 dX10_skips_1 rfl hl (by decide) rfl (fun ls hl => ?_)
  refine lv_iconst (v := 0) fx.1 fx.2.1 dX10_skips_2 (by decide) ?_
  refine lv_istore_n (lv' := [(2, .int (0 : Int32)), (1, .int (0 : Int32)), (0, .ref x0)]) fx.1 fx.2.1 dX10_skips_3 rfl hl (by decide) rfl (fun ls hl => ?_)
  refine w_l_X10_skips_4 fx n x0 h0 G ?_ n (0 : Int32) (0 : Int32)  _ _ _  hw (lv_sub hl [2, 1, 0] rfl) (gOk_bindK hok)
  intro z11  H locs ls hw hl hok
  have hok : gOk (ρ := Int32) (some (z11)) _ := hok
  refine lv_iload_n fx.1 fx.2.1 dX10_skips_60 rfl (lv_at hl 0 rfl) ?_
  cases gOk_some hok
  exact g_iret fx hw hr dX10_skips_61
theorem dX10_loose_0 : decode cX10_loose 0 = .ok (.iconst 0, 1) := by decide +kernel
theorem dX10_loose_1 : decode cX10_loose 1 = .ok (.istore_n 1, 1) := by decide +kernel
theorem dX10_loose_2 : decode cX10_loose 2 = .ok (.iconst 0, 1) := by decide +kernel
theorem dX10_loose_3 : decode cX10_loose 3 = .ok (.istore_n 2, 1) := by decide +kernel
theorem dX10_loose_4 : decode cX10_loose 4 = .ok (.iload_n 2, 1) := by decide +kernel
theorem dX10_loose_5 : decode cX10_loose 5 = .ok (.aload_n 0, 1) := by decide +kernel
theorem dX10_loose_6 : decode cX10_loose 6 = .ok (.getfield 70, 3) := by decide +kernel
theorem dX10_loose_9 : decode cX10_loose 9 = .ok (.getfield 286, 3) := by decide +kernel
theorem dX10_loose_12 : decode cX10_loose 12 = .ok (.if_icmp .ge 39, 3) := by decide +kernel
theorem dX10_loose_15 : decode cX10_loose 15 = .ok (.aload_n 0, 1) := by decide +kernel
theorem dX10_loose_16 : decode cX10_loose 16 = .ok (.getfield 70, 3) := by decide +kernel
theorem dX10_loose_19 : decode cX10_loose 19 = .ok (.getfield 325, 3) := by decide +kernel
theorem dX10_loose_22 : decode cX10_loose 22 = .ok (.iload_n 2, 1) := by decide +kernel
theorem dX10_loose_23 : decode cX10_loose 23 = .ok (.aaload, 1) := by decide +kernel
theorem dX10_loose_24 : decode cX10_loose 24 = .ok (.astore_n 3, 1) := by decide +kernel
theorem dX10_loose_25 : decode cX10_loose 25 = .ok (.aload_n 3, 1) := by decide +kernel
theorem dX10_loose_26 : decode cX10_loose 26 = .ok (.getfield 185, 3) := by decide +kernel
theorem dX10_loose_29 : decode cX10_loose 29 = .ok (.ifCond .ne 16, 3) := by decide +kernel
theorem dX10_loose_32 : decode cX10_loose 32 = .ok (.aload_n 3, 1) := by decide +kernel
theorem dX10_loose_33 : decode cX10_loose 33 = .ok (.getfield 178, 3) := by decide +kernel
theorem dX10_loose_36 : decode cX10_loose 36 = .ok (.ifCond .ne 9, 3) := by decide +kernel
theorem dX10_loose_39 : decode cX10_loose 39 = .ok (.iload_n 1, 1) := by decide +kernel
theorem dX10_loose_40 : decode cX10_loose 40 = .ok (.iconst 1, 1) := by decide +kernel
theorem dX10_loose_41 : decode cX10_loose 41 = .ok (.iload_n 2, 1) := by decide +kernel
theorem dX10_loose_42 : decode cX10_loose 42 = .ok (.ishl, 1) := by decide +kernel
theorem dX10_loose_43 : decode cX10_loose 43 = .ok (.ior, 1) := by decide +kernel
theorem dX10_loose_44 : decode cX10_loose 44 = .ok (.istore_n 1, 1) := by decide +kernel
theorem dX10_loose_45 : decode cX10_loose 45 = .ok (.iinc 2 1, 3) := by decide +kernel
theorem dX10_loose_48 : decode cX10_loose 48 = .ok (.goto (-44), 3) := by decide +kernel
theorem dX10_loose_51 : decode cX10_loose 51 = .ok (.iload_n 1, 1) := by decide +kernel
theorem dX10_loose_52 : decode cX10_loose 52 = .ok (.ireturn, 1) := by decide +kernel
theorem lf_RX10_178 : gLf RX10 178 5 8 := ⟨(RX5, TX5, 10), rfl, by decide, wA_t (wt1 (List.mem_of_getElem? (i := 198) (by decide +kernel))) (by decide +kernel), rfl⟩
def rm_X10_loose : Room := { frames := 0, cells := 0, slots := 0, locals := 0 }
def b_X10_loose_4 (τ : gτ) (n : Nat) (x0 : Nat) (x1 : Int32) (x2 : Int32) (G : gG) : Option ((Int32 × Int32) ⊕ ((Int32))) :=
  (gr G 10 10 x0).bind fun a1 =>
  if (gi G 6 5 a1) ≤ x2 then (some (.inr x1))
  else ((gr G 10 10 x0).bind fun a2 =>
  (gr G 6 1 a2).bind fun a3 =>
  gchk (gIn x2 (gn τ a3)) <| (gq G a3 (Int32.toNatClampNeg x2)).bind fun a4 =>
  if (gi G 5 9 a4) = 0 then (if (gi G 5 8 a4) = 0 then (gLet (x1 ||| ((1 : Int32) <<< (x2 &&& 31))) fun v5 =>
  gLet (x2 + 1) fun v6 =>
  some (.inl (v5, v6)))
  else (gLet (x2 + 1) fun v7 =>
  some (.inl (x1, v7))))
  else (gLet (x2 + 1) fun v8 =>
  some (.inl (x1, v8))))
def l_X10_loose_4 (τ : gτ) (n : Nat) (x0 : Nat) (x1 : Int32) (x2 : Int32) (G : gG) : Option ((Int32)) :=
  gIter (fun (q : Int32 × Int32) => b_X10_loose_4 τ n x0 q.1 q.2 G) n (x1, x2)
def f_X10_loose (τ : gτ) (n : Nat) (x0 : Nat) (G : gG) : Option (Int32) :=
  (l_X10_loose_4 τ n x0 (0 : Int32) (0 : Int32) G).bind fun q => gLet q fun z9 => 
  some (z9)
set_option maxHeartbeats 4000000 in
set_option maxRecDepth 100000 in
theorem w_b_X10_loose_4 {X : gX} {τ : gτ} {p : Program} {l : Launch} {e : Env} {s : State} {m : MethodId} {args : Array Value} {below : List Frame} {meth : Method} {c : Code} (fx : gFx X p s m args meth c cX10_loose 4 RX10) (n : Nat) (x0 : Nat) (x1 : Int32) (x2 : Int32) (h0 : gK τ x0 10) {Q : State → Prop} {K : ((Int32 × Int32) ⊕ ((Int32))) → Prop} {G : gG} {H : Heap} {locs : List Loc} {ls : Array Slot} (hw : gHw X τ G H locs) (hl : lv_has ls 4 [(0, .ref x0), (1, .int x1), (2, .int x2)]) (hok : gOk (b_X10_loose_4 τ n x0 x1 x2 G) K) (hc : ∀ (y1 : Int32) (y2 : Int32) (H : Heap) (locs : List Loc) (ls : Array Slot), gHw X τ G H locs → lv_has ls 4 [(0, .ref x0), (1, .int y1), (2, .int y2)] → K (.inl (y1, y2)) → W p l e rm_X10_loose s m args below meth c H locs 0 0 Q (F0 m 4 ls [])) (hx0 : ∀ (y1 : Int32) (H : Heap) (locs : List Loc) (ls : Array Slot), gHw X τ G H locs → lv_has ls 4 [(1, .int y1)] → K (.inr y1) → W p l e rm_X10_loose s m args below meth c H locs 0 0 Q (F0 m 51 ls [])) : W p l e rm_X10_loose s m args below meth c H locs 0 0 Q (F0 m 4 ls []) := by
  unfold b_X10_loose_4 at hok
  refine lv_iload_n fx.1 fx.2.1 dX10_loose_4 rfl (lv_at hl 2 rfl) ?_
  refine lv_aload_n fx.1 fx.2.1 dX10_loose_5 rfl (lv_at hl 0 rfl) ?_
  refine g_getr fx hw h0 lf_RX10_70 rfl dX10_loose_6 hok (fun a1 h_a1 hok => ?_)
  refine g_geti fx hw h_a1 lf_RX10_286 rfl dX10_loose_9 ?_
  refine g_icmp_ge (tgt := 51) fx dX10_loose_12 (by decide) hok (fun hok => ?_) (fun hok => ?_)
  · exact hx0 x1  _ _ _  hw (lv_sub hl [1] rfl) (gOk_some hok)
  · refine lv_aload_n fx.1 fx.2.1 dX10_loose_15 rfl (lv_at hl 0 rfl) ?_
    refine g_getr fx hw h0 lf_RX10_70 rfl dX10_loose_16 hok (fun a2 h_a2 hok => ?_)
    refine g_getr fx hw h_a2 lf_RX10_325 rfl dX10_loose_19 hok (fun a3 h_a3 hok => ?_)
    refine lv_iload_n fx.1 fx.2.1 dX10_loose_22 rfl (lv_at hl 2 rfl) ?_
    refine g_aald fx hw 15 3 h_a3 (by decide) (by decide) rfl (κ' := 5) rfl dX10_loose_23 hok (fun a4 h_a4 hok => ?_)
    refine lv_astore_n (lv' := [(3, .ref a4), (0, .ref x0), (1, .int x1), (2, .int x2)]) fx.1 fx.2.1 dX10_loose_24 rfl hl (by decide) rfl (fun ls hl => ?_)
    refine lv_aload_n fx.1 fx.2.1 dX10_loose_25 rfl (lv_at hl 0 rfl) ?_
    refine g_geti fx hw h_a4 lf_RX10_185 rfl dX10_loose_26 ?_
    refine g_if_ne (tgt := 45) fx dX10_loose_29 (by decide) hok (fun hok => ?_) (fun hok => ?_)
    · refine lv_aload_n fx.1 fx.2.1 dX10_loose_32 rfl (lv_at hl 0 rfl) ?_
      refine g_geti fx hw h_a4 lf_RX10_178 rfl dX10_loose_33 ?_
      refine g_if_ne (tgt := 45) fx dX10_loose_36 (by decide) hok (fun hok => ?_) (fun hok => ?_)
      · refine lv_iload_n fx.1 fx.2.1 dX10_loose_39 rfl (lv_at hl 2 rfl) ?_
        refine lv_iconst (v := 1) fx.1 fx.2.1 dX10_loose_40 (by decide) ?_
        refine lv_iload_n fx.1 fx.2.1 dX10_loose_41 rfl (lv_at hl 3 rfl) ?_
        refine lv_ishl fx.1 fx.2.1 dX10_loose_42 ?_
        refine lv_ior fx.1 fx.2.1 dX10_loose_43 ?_
        refine g_leti hok (fun v5 hok => ?_)
        refine lv_istore_n (lv' := [(1, .int v5), (3, .ref a4), (0, .ref x0), (2, .int x2)]) fx.1 fx.2.1 dX10_loose_44 rfl hl (by decide) rfl (fun ls hl => ?_)
        obtain ⟨v6, e_v6, hok⟩ := gOk_let hok
        refine lv_iinc (v := v6) (lv' := [(2, .int v6), (1, .int v5), (3, .ref a4), (0, .ref x0)]) fx.1 fx.2.1 dX10_loose_45 hl (k := 3) rfl (by rw [e_v6]; rfl) (by decide) rfl (fun ls hl => ?_)
        refine lv_goto (tgt := 4) fx.1 fx.2.1 dX10_loose_48 (by decide) ?_
        exact hc v5 v6  _ _ _  hw (lv_sub hl [3, 1, 0] rfl) (gOk_some hok)
      · obtain ⟨v7, e_v7, hok⟩ := gOk_let hok
        refine lv_iinc (v := v7) (lv' := [(2, .int v7), (3, .ref a4), (0, .ref x0), (1, .int x1)]) fx.1 fx.2.1 dX10_loose_45 hl (k := 3) rfl (by rw [e_v7]; rfl) (by decide) rfl (fun ls hl => ?_)
        refine lv_goto (tgt := 4) fx.1 fx.2.1 dX10_loose_48 (by decide) ?_
        exact hc x1 v7  _ _ _  hw (lv_sub hl [2, 3, 0] rfl) (gOk_some hok)
    · obtain ⟨v8, e_v8, hok⟩ := gOk_let hok
      refine lv_iinc (v := v8) (lv' := [(2, .int v8), (3, .ref a4), (0, .ref x0), (1, .int x1)]) fx.1 fx.2.1 dX10_loose_45 hl (k := 3) rfl (by rw [e_v8]; rfl) (by decide) rfl (fun ls hl => ?_)
      refine lv_goto (tgt := 4) fx.1 fx.2.1 dX10_loose_48 (by decide) ?_
      exact hc x1 v8  _ _ _  hw (lv_sub hl [2, 3, 0] rfl) (gOk_some hok)
theorem w_l_X10_loose_4 {X : gX} {τ : gτ} {p : Program} {l : Launch} {e : Env} {s : State} {m : MethodId} {args : Array Value} {below : List Frame} {meth : Method} {c : Code} (fx : gFx X p s m args meth c cX10_loose 4 RX10) (n : Nat) (x0 : Nat) (h0 : gK τ x0 10) (G : gG) {Q : State → Prop} {K : ((Int32)) → Prop} (hx0 : ∀ (y1 : Int32) (H : Heap) (locs : List Loc) (ls : Array Slot), gHw X τ G H locs → lv_has ls 4 [(1, .int y1)] → K y1 → W p l e rm_X10_loose s m args below meth c H locs 0 0 Q (F0 m 51 ls [])) : ∀ (k : Nat) (x1 : Int32) (x2 : Int32) (H : Heap) (locs : List Loc) (ls : Array Slot), gHw X τ G H locs → lv_has ls 4 [(0, .ref x0), (1, .int x1), (2, .int x2)] → gOk (gIter (fun (q : Int32 × Int32) => b_X10_loose_4 τ n x0 q.1 q.2 G) k (x1, x2)) K → W p l e rm_X10_loose s m args below meth c H locs 0 0 Q (F0 m 4 ls []) := by
  intro k
  induction k with
  | zero =>
    intro x1 x2  H locs ls hw hl hok
    exact gOk_iter0 hok
  | succ k hc =>
    intro x1 x2  H locs ls hw hl hok
    exact w_b_X10_loose_4 fx n x0 x1 x2 h0 hw hl (gOk_iter hok) hc hx0
set_option maxHeartbeats 4000000 in
set_option maxRecDepth 100000 in
theorem c_X10_loose (l : Launch) (X : gX) (τ : gτ) (n : Nat) (x0 : Nat) (G : gG) (h0 : gK τ x0 10) {r : Int32}  (h : f_X10_loose τ n x0 G = some r) : gM l X τ yX10_loose cX10_loose 4 (some .int) rm_X10_loose [.ref x0] G (some (.int r)) G := by
  refine g_body (by decide +kernel) (Nat.le_of_ble_eq_true rfl) ?_
  intro p e s m args below meth c ls fx hr hw hl
  have fx : gFx X p s m args meth c cX10_loose 4 RX10 := fx
  have hl : lv_has ls 4 [(0, .ref x0)] := hl
  have hok : gOk (f_X10_loose τ n x0 G) (fun q => q = r) := ⟨_, h, rfl⟩
  unfold f_X10_loose at hok
  show W p l e rm_X10_loose s m args below meth c s.heap [] 0 0 (MQ below (gQ X τ (some (.int r)) G) args s 0 0 (gFree X)) _
  refine lv_iconst (v := 0) fx.1 fx.2.1 dX10_loose_0 (by decide) ?_
  refine lv_istore_n (lv' := [(1, .int (0 : Int32)), (0, .ref x0)]) fx.1 fx.2.1 dX10_loose_1 rfl hl (by decide) rfl (fun ls hl => ?_)
  refine lv_iconst (v := 0) fx.1 fx.2.1 dX10_loose_2 (by decide) ?_
  refine lv_istore_n (lv' := [(2, .int (0 : Int32)), (1, .int (0 : Int32)), (0, .ref x0)]) fx.1 fx.2.1 dX10_loose_3 rfl hl (by decide) rfl (fun ls hl => ?_)
  refine w_l_X10_loose_4 fx n x0 h0 G ?_ n (0 : Int32) (0 : Int32)  _ _ _  hw (lv_sub hl [2, 1, 0] rfl) (gOk_bindK hok)
  intro z9  H locs ls hw hl hok
  have hok : gOk (ρ := Int32) (some (z9)) _ := hok
  refine lv_iload_n fx.1 fx.2.1 dX10_loose_51 rfl (lv_at hl 0 rfl) ?_
  cases gOk_some hok
  exact g_iret fx hw hr dX10_loose_52
theorem dX10_seed_0 : decode cX10_seed 0 = .ok (.aload_n 0, 1) := by decide +kernel
theorem dX10_seed_1 : decode cX10_seed 1 = .ok (.getfield 70, 3) := by decide +kernel
theorem dX10_seed_4 : decode cX10_seed 4 = .ok (.getfield 403, 3) := by decide +kernel
theorem dX10_seed_7 : decode cX10_seed 7 = .ok (.istore_n 2, 1) := by decide +kernel
theorem dX10_seed_8 : decode cX10_seed 8 = .ok (.aload_n 0, 1) := by decide +kernel
theorem dX10_seed_9 : decode cX10_seed 9 = .ok (.getfield 70, 3) := by decide +kernel
theorem dX10_seed_12 : decode cX10_seed 12 = .ok (.iload_n 1, 1) := by decide +kernel
theorem dX10_seed_13 : decode cX10_seed 13 = .ok (.putfield 403, 3) := by decide +kernel
theorem dX10_seed_16 : decode cX10_seed 16 = .ok (.iload_n 2, 1) := by decide +kernel
theorem dX10_seed_17 : decode cX10_seed 17 = .ok (.ireturn, 1) := by decide +kernel
theorem lf_RX10_403 : gLf RX10 403 6 11 := ⟨(RX6, TX6, 15), rfl, by decide, wA_t (wt2 (List.mem_of_getElem? (i := 36) (by decide +kernel))) (by decide +kernel), rfl⟩
theorem lp_RX10_403 : gLp RX10 403 6 11 := ⟨(RX6, TX6, 15), rfl, by decide, wA_t (wt2 (List.mem_of_getElem? (i := 36) (by decide +kernel))) (by decide +kernel), rfl, rfl⟩
def rm_X10_seed : Room := { frames := 0, cells := 0, slots := 0, locals := 0 }
def f_X10_seed (x0 : Nat) (x1 : Int32) (G : gG) : Option (Int32 × gG) :=
  (gr G 10 10 x0).bind fun a1 =>
  gLet (gi G 6 11 a1) fun v2 =>
  (gr G 10 10 x0).bind fun a3 =>
  gLet (gsi G 6 11 a3 x1) fun G4 =>
  some (v2, G4)
set_option maxHeartbeats 4000000 in
set_option maxRecDepth 100000 in
theorem c_X10_seed (l : Launch) (X : gX) (τ : gτ) (x0 : Nat) (x1 : Int32) (G : gG) (h0 : gK τ x0 10) {r : Int32} {G' : gG} (h : f_X10_seed x0 x1 G = some (r, G')) : gM l X τ yX10_seed cX10_seed 3 (some .int) rm_X10_seed [.ref x0, .int x1] G (some (.int r)) G' := by
  refine g_body (by decide +kernel) (Nat.le_of_ble_eq_true rfl) ?_
  intro p e s m args below meth c ls fx hr hw hl
  have fx : gFx X p s m args meth c cX10_seed 3 RX10 := fx
  have hl : lv_has ls 3 [(0, .ref x0), (1, .int x1)] := hl
  have hok : gOk (f_X10_seed x0 x1 G) (fun q => q = (r, G')) := ⟨_, h, rfl⟩
  unfold f_X10_seed at hok
  show W p l e rm_X10_seed s m args below meth c s.heap [] 0 0 (MQ below (gQ X τ (some (.int r)) G') args s 0 0 (gFree X)) _
  refine lv_aload_n fx.1 fx.2.1 dX10_seed_0 rfl (lv_at hl 0 rfl) ?_
  refine g_getr fx hw h0 lf_RX10_70 rfl dX10_seed_1 hok (fun a1 h_a1 hok => ?_)
  refine g_geti fx hw h_a1 lf_RX10_403 rfl dX10_seed_4 ?_
  refine g_leti hok (fun v2 hok => ?_)
  refine lv_istore_n (lv' := [(2, .int v2), (0, .ref x0), (1, .int x1)]) fx.1 fx.2.1 dX10_seed_7 rfl hl (by decide) rfl (fun ls hl => ?_)
  refine lv_aload_n fx.1 fx.2.1 dX10_seed_8 rfl (lv_at hl 1 rfl) ?_
  refine g_getr fx hw h0 lf_RX10_70 rfl dX10_seed_9 hok (fun a3 h_a3 hok => ?_)
  refine lv_iload_n fx.1 fx.2.1 dX10_seed_12 rfl (lv_at hl 2 rfl) ?_
  refine g_puti fx hw h_a3 lp_RX10_403 rfl rfl dX10_seed_13 hok (fun G4 H locs hw hok => ?_)
  refine lv_iload_n fx.1 fx.2.1 dX10_seed_16 rfl (lv_at hl 0 rfl) ?_
  cases gOk_some hok
  exact g_iret fx hw hr dX10_seed_17
theorem dX10_undo_0 : decode cX10_undo 0 = .ok (.aload_n 0, 1) := by decide +kernel
theorem dX10_undo_1 : decode cX10_undo 1 = .ok (.getfield 35, 3) := by decide +kernel
theorem dX10_undo_4 : decode cX10_undo 4 = .ok (.aload_n 0, 1) := by decide +kernel
theorem dX10_undo_5 : decode cX10_undo 5 = .ok (.getfield 70, 3) := by decide +kernel
theorem dX10_undo_8 : decode cX10_undo 8 = .ok (.invokevirtual 426, 3) := by decide +kernel
theorem dX10_undo_11 : decode cX10_undo 11 = .ok (.ireturn, 1) := by decide +kernel
theorem lf_RX10_35 : gLf RX10 35 10 3 := ⟨(RX10, TX10, 15), rfl, by decide, wA_t (wt2 (List.mem_of_getElem? (i := 129) (by decide +kernel))) (by decide +kernel), rfl⟩
theorem lv_RX10_426 : gLv RX10 426 RX3 yX3_recall cX3_recall 2 (some .boolean) 1 := gLv_of (wA_t (wt3 (List.mem_of_getElem? (i := 91) (by decide +kernel))) (by decide +kernel)) (wA_t (wt3 (List.mem_of_getElem? (i := 92) (by decide +kernel))) (by decide +kernel)) (wA_t (wt3 (List.mem_of_getElem? (i := 93) (by decide +kernel))) (by decide +kernel)) (wA_t (wt1 (List.mem_of_getElem? (i := 5) (by decide +kernel))) (by decide +kernel)) (wA_t (wt3 (List.mem_of_getElem? (i := 94) (by decide +kernel))) (by decide +kernel)) ⟨rfl, by decide +kernel, by decide +kernel, by decide +kernel⟩
def rm_X10_undo : Room := { frames := 4, cells := 0, slots := 0, locals := 104 }
def f_X10_undo (τ : gτ) (n : Nat) (x0 : Nat) (G : gG) : Option (Int32 × gG) :=
  (gr G 10 3 x0).bind fun a1 =>
  (gr G 10 10 x0).bind fun a2 =>
  gBind2 (f_X3_recall τ n a1 a2 G) fun v3 G4 =>
  gchk (v3 = 0 ∨ v3 = 1) <| some (v3, G4)
set_option maxHeartbeats 4000000 in
set_option maxRecDepth 100000 in
theorem c_X10_undo (l : Launch) (X : gX) (τ : gτ) (n : Nat) (x0 : Nat) (G : gG) (h0 : gK τ x0 10) {r : Int32} {G' : gG} (h : f_X10_undo τ n x0 G = some (r, G')) : gM l X τ yX10_undo cX10_undo 1 (some .boolean) rm_X10_undo [.ref x0] G (some (.int r)) G' := by
  refine g_body (by decide +kernel) (Nat.le_of_ble_eq_true rfl) ?_
  intro p e s m args below meth c ls fx hr hw hl
  have fx : gFx X p s m args meth c cX10_undo 1 RX10 := fx
  have hl : lv_has ls 1 [(0, .ref x0)] := hl
  have hok : gOk (f_X10_undo τ n x0 G) (fun q => q = (r, G')) := ⟨_, h, rfl⟩
  unfold f_X10_undo at hok
  show W p l e rm_X10_undo s m args below meth c s.heap [] 0 0 (MQ below (gQ X τ (some (.int r)) G') args s 0 0 (gFree X)) _
  refine lv_aload_n fx.1 fx.2.1 dX10_undo_0 rfl (lv_at hl 0 rfl) ?_
  refine g_getr fx hw h0 lf_RX10_35 rfl dX10_undo_1 hok (fun a1 h_a1 hok => ?_)
  refine lv_aload_n fx.1 fx.2.1 dX10_undo_4 rfl (lv_at hl 0 rfl) ?_
  refine g_getr fx hw h0 lf_RX10_70 rfl dX10_undo_5 hok (fun a2 h_a2 hok => ?_)
  obtain ⟨v3, G4, hf, hok⟩ := gOk_bind2 hok
  refine g_callV0 (κ := 3) fx hw (c_X3_recall l X τ n a1 a2 G h_a1 h_a2 hf) lv_RX10_426 ⟨rfl, rfl⟩ rfl rfl h_a1 rfl hl.1 rfl ⟨Nat.le_of_ble_eq_true rfl, Nat.le_of_ble_eq_true rfl⟩ (Nat.le_of_ble_eq_true rfl) ⟨Nat.le_of_ble_eq_true rfl, Nat.le_of_ble_eq_true rfl⟩ dX10_undo_8 (fun H locs hw => ?_)
  obtain ⟨hz, hok⟩ := gOk_chk hok
  cases gOk_some hok
  exact g_zret fx hw hr hz dX10_undo_11
theorem dX10_image_0 : decode cX10_image 0 = .ok (.aload_n 0, 1) := by decide +kernel
theorem dX10_image_1 : decode cX10_image 1 = .ok (.getfield 42, 3) := by decide +kernel
theorem dX10_image_4 : decode cX10_image 4 = .ok (.aload_n 0, 1) := by decide +kernel
theorem dX10_image_5 : decode cX10_image 5 = .ok (.getfield 70, 3) := by decide +kernel
theorem dX10_image_8 : decode cX10_image 8 = .ok (.invokevirtual 90, 3) := by decide +kernel
theorem dX10_image_11 : decode cX10_image 11 = .ok (.aload_n 0, 1) := by decide +kernel
theorem dX10_image_12 : decode cX10_image 12 = .ok (.getfield 49, 3) := by decide +kernel
theorem dX10_image_15 : decode cX10_image 15 = .ok (.aload_n 0, 1) := by decide +kernel
theorem dX10_image_16 : decode cX10_image 16 = .ok (.getfield 76, 3) := by decide +kernel
theorem dX10_image_19 : decode cX10_image 19 = .ok (.invokevirtual 429, 3) := by decide +kernel
theorem dX10_image_22 : decode cX10_image 22 = .ok (.aload_n 0, 1) := by decide +kernel
theorem dX10_image_23 : decode cX10_image 23 = .ok (.iconst 1, 1) := by decide +kernel
theorem dX10_image_24 : decode cX10_image 24 = .ok (.putfield 432, 3) := by decide +kernel
theorem dX10_image_27 : decode cX10_image 27 = .ok (.return_, 1) := by decide +kernel
theorem lf_RX10_42 : gLf RX10 42 10 4 := ⟨(RX10, TX10, 15), rfl, by decide, wA_t (wt2 (List.mem_of_getElem? (i := 130) (by decide +kernel))) (by decide +kernel), rfl⟩
theorem lv_RX10_90 : gLv RX10 90 RX6 yX6_become cX6_become 3 none 1 := gLv_of (wA_t (wt3 (List.mem_of_getElem? (i := 122) (by decide +kernel))) (by decide +kernel)) (wA_t (wt3 (List.mem_of_getElem? (i := 96) (by decide +kernel))) (by decide +kernel)) (wA_t (wt3 (List.mem_of_getElem? (i := 97) (by decide +kernel))) (by decide +kernel)) (wA_t (wt1 (List.mem_of_getElem? (i := 6) (by decide +kernel))) (by decide +kernel)) (wA_t (wt3 (List.mem_of_getElem? (i := 98) (by decide +kernel))) (by decide +kernel)) ⟨rfl, by decide +kernel, by decide +kernel, by decide +kernel⟩
theorem lf_RX10_49 : gLf RX10 49 10 5 := ⟨(RX10, TX10, 15), rfl, by decide, wA_t (wt2 (List.mem_of_getElem? (i := 131) (by decide +kernel))) (by decide +kernel), rfl⟩
theorem lv_RX10_429 : gLv RX10 429 RX1 yX1_become cX1_become 2 none 1 := gLv_of (wA_t (wt3 (List.mem_of_getElem? (i := 123) (by decide +kernel))) (by decide +kernel)) (wA_t (wt3 (List.mem_of_getElem? (i := 124) (by decide +kernel))) (by decide +kernel)) (wA_t (wt3 (List.mem_of_getElem? (i := 125) (by decide +kernel))) (by decide +kernel)) (wA_t (wt1 (List.mem_of_getElem? (i := 11) (by decide +kernel))) (by decide +kernel)) (wA_t (wt3 (List.mem_of_getElem? (i := 126) (by decide +kernel))) (by decide +kernel)) ⟨rfl, by decide +kernel, by decide +kernel, by decide +kernel⟩
theorem lp_RX10_432 : gLp RX10 432 10 14 := ⟨(RX10, TX10, 15), rfl, by decide, wA_t (wt2 (List.mem_of_getElem? (i := 140) (by decide +kernel))) (by decide +kernel), rfl, rfl⟩
def rm_X10_image : Room := { frames := 3, cells := 0, slots := 0, locals := 83 }
def f_X10_image (τ : gτ) (n : Nat) (x0 : Nat) (G : gG) : Option (gG) :=
  (gr G 10 4 x0).bind fun a1 =>
  (gr G 10 10 x0).bind fun a2 =>
  (f_X6_become τ n a1 a2 G).bind fun G3 =>
  (gr G3 10 5 x0).bind fun a4 =>
  (gr G3 10 12 x0).bind fun a5 =>
  (f_X1_become τ a4 a5 G3).bind fun G6 =>
  gLet (gsi G6 10 14 x0 (1 : Int32)) fun G7 =>
  some G7
set_option maxHeartbeats 4000000 in
set_option maxRecDepth 100000 in
theorem c_X10_image (l : Launch) (X : gX) (τ : gτ) (n : Nat) (x0 : Nat) (G : gG) (h0 : gK τ x0 10) {G' : gG} (h : f_X10_image τ n x0 G = some G') : gM l X τ yX10_image cX10_image 1 none rm_X10_image [.ref x0] G none G' := by
  refine g_body (by decide +kernel) (Nat.le_of_ble_eq_true rfl) ?_
  intro p e s m args below meth c ls fx hr hw hl
  have fx : gFx X p s m args meth c cX10_image 1 RX10 := fx
  have hl : lv_has ls 1 [(0, .ref x0)] := hl
  have hok : gOk (f_X10_image τ n x0 G) (fun q => q = G') := ⟨_, h, rfl⟩
  unfold f_X10_image at hok
  show W p l e rm_X10_image s m args below meth c s.heap [] 0 0 (MQ below (gQ X τ none G') args s 0 0 (gFree X)) _
  refine lv_aload_n fx.1 fx.2.1 dX10_image_0 rfl (lv_at hl 0 rfl) ?_
  refine g_getr fx hw h0 lf_RX10_42 rfl dX10_image_1 hok (fun a1 h_a1 hok => ?_)
  refine lv_aload_n fx.1 fx.2.1 dX10_image_4 rfl (lv_at hl 0 rfl) ?_
  refine g_getr fx hw h0 lf_RX10_70 rfl dX10_image_5 hok (fun a2 h_a2 hok => ?_)
  obtain ⟨G3, hf, hok⟩ := gOk_bind hok
  refine g_callV0 (κ := 6) fx hw (c_X6_become l X τ n a1 a2 G h_a1 h_a2 hf) lv_RX10_90 ⟨rfl, rfl⟩ rfl rfl h_a1 rfl hl.1 rfl ⟨Nat.le_of_ble_eq_true rfl, Nat.le_of_ble_eq_true rfl⟩ (Nat.le_of_ble_eq_true rfl) ⟨Nat.le_of_ble_eq_true rfl, Nat.le_of_ble_eq_true rfl⟩ dX10_image_8 (fun H locs hw => ?_)
  refine lv_aload_n fx.1 fx.2.1 dX10_image_11 rfl (lv_at hl 0 rfl) ?_
  refine g_getr fx hw h0 lf_RX10_49 rfl dX10_image_12 hok (fun a4 h_a4 hok => ?_)
  refine lv_aload_n fx.1 fx.2.1 dX10_image_15 rfl (lv_at hl 0 rfl) ?_
  refine g_getr fx hw h0 lf_RX10_76 rfl dX10_image_16 hok (fun a5 h_a5 hok => ?_)
  obtain ⟨G6, hf, hok⟩ := gOk_bind hok
  refine g_callV0 (κ := 1) fx hw (c_X1_become l X τ a4 a5 G3 h_a4 h_a5 hf) lv_RX10_429 ⟨rfl, rfl⟩ rfl rfl h_a4 rfl hl.1 rfl ⟨Nat.le_of_ble_eq_true rfl, Nat.le_of_ble_eq_true rfl⟩ (Nat.le_of_ble_eq_true rfl) ⟨Nat.le_of_ble_eq_true rfl, Nat.le_of_ble_eq_true rfl⟩ dX10_image_19 (fun H locs hw => ?_)
  refine lv_aload_n fx.1 fx.2.1 dX10_image_22 rfl (lv_at hl 0 rfl) ?_
  refine lv_iconst (v := 1) fx.1 fx.2.1 dX10_image_23 (by decide) ?_
  refine g_putz fx hw h0 lp_RX10_432 rfl rfl (by decide) dX10_image_24 hok (fun G7 H locs hw hok => ?_)
  cases gOk_some hok
  exact g_vret fx hw hr dX10_image_27
theorem dX10_back_0 : decode cX10_back 0 = .ok (.aload_n 0, 1) := by decide +kernel
theorem dX10_back_1 : decode cX10_back 1 = .ok (.getfield 432, 3) := by decide +kernel
theorem dX10_back_4 : decode cX10_back 4 = .ok (.ifCond .ne 5, 3) := by decide +kernel
theorem dX10_back_7 : decode cX10_back 7 = .ok (.iconst 0, 1) := by decide +kernel
theorem dX10_back_8 : decode cX10_back 8 = .ok (.ireturn, 1) := by decide +kernel
theorem dX10_back_9 : decode cX10_back 9 = .ok (.aload_n 0, 1) := by decide +kernel
theorem dX10_back_10 : decode cX10_back 10 = .ok (.getfield 70, 3) := by decide +kernel
theorem dX10_back_13 : decode cX10_back 13 = .ok (.aload_n 0, 1) := by decide +kernel
theorem dX10_back_14 : decode cX10_back 14 = .ok (.getfield 42, 3) := by decide +kernel
theorem dX10_back_17 : decode cX10_back 17 = .ok (.invokevirtual 90, 3) := by decide +kernel
theorem dX10_back_20 : decode cX10_back 20 = .ok (.aload_n 0, 1) := by decide +kernel
theorem dX10_back_21 : decode cX10_back 21 = .ok (.getfield 76, 3) := by decide +kernel
theorem dX10_back_24 : decode cX10_back 24 = .ok (.aload_n 0, 1) := by decide +kernel
theorem dX10_back_25 : decode cX10_back 25 = .ok (.getfield 49, 3) := by decide +kernel
theorem dX10_back_28 : decode cX10_back 28 = .ok (.invokevirtual 429, 3) := by decide +kernel
theorem dX10_back_31 : decode cX10_back 31 = .ok (.aload_n 0, 1) := by decide +kernel
theorem dX10_back_32 : decode cX10_back 32 = .ok (.getfield 35, 3) := by decide +kernel
theorem dX10_back_35 : decode cX10_back 35 = .ok (.invokevirtual 113, 3) := by decide +kernel
theorem dX10_back_38 : decode cX10_back 38 = .ok (.iconst 1, 1) := by decide +kernel
theorem dX10_back_39 : decode cX10_back 39 = .ok (.ireturn, 1) := by decide +kernel
theorem lf_RX10_432 : gLf RX10 432 10 14 := ⟨(RX10, TX10, 15), rfl, by decide, wA_t (wt2 (List.mem_of_getElem? (i := 140) (by decide +kernel))) (by decide +kernel), rfl⟩
theorem lv_RX10_113 : gLv RX10 113 RX3 yX3_forget cX3_forget 1 none 0 := gLv_of (wA_t (wt3 (List.mem_of_getElem? (i := 132) (by decide +kernel))) (by decide +kernel)) (wA_t (wt3 (List.mem_of_getElem? (i := 133) (by decide +kernel))) (by decide +kernel)) (wA_t (wt3 (List.mem_of_getElem? (i := 134) (by decide +kernel))) (by decide +kernel)) (wA_t (wt1 (List.mem_of_getElem? (i := 5) (by decide +kernel))) (by decide +kernel)) (wA_t (wt3 (List.mem_of_getElem? (i := 135) (by decide +kernel))) (by decide +kernel)) ⟨rfl, by decide +kernel, by decide +kernel, by decide +kernel⟩
def rm_X10_back : Room := { frames := 3, cells := 0, slots := 0, locals := 83 }
def f_X10_back (τ : gτ) (n : Nat) (x0 : Nat) (G : gG) : Option (Int32 × gG) :=
  if (gi G 10 14 x0) = 0 then (some (0, G))
  else ((gr G 10 10 x0).bind fun a1 =>
  (gr G 10 4 x0).bind fun a2 =>
  (f_X6_become τ n a1 a2 G).bind fun G3 =>
  (gr G3 10 12 x0).bind fun a4 =>
  (gr G3 10 5 x0).bind fun a5 =>
  (f_X1_become τ a4 a5 G3).bind fun G6 =>
  (gr G6 10 3 x0).bind fun a7 =>
  (f_X3_forget a7 G6).bind fun G8 =>
  some (1, G8))
set_option maxHeartbeats 4000000 in
set_option maxRecDepth 100000 in
theorem c_X10_back (l : Launch) (X : gX) (τ : gτ) (n : Nat) (x0 : Nat) (G : gG) (h0 : gK τ x0 10) {r : Int32} {G' : gG} (h : f_X10_back τ n x0 G = some (r, G')) : gM l X τ yX10_back cX10_back 1 (some .boolean) rm_X10_back [.ref x0] G (some (.int r)) G' := by
  refine g_body (by decide +kernel) (Nat.le_of_ble_eq_true rfl) ?_
  intro p e s m args below meth c ls fx hr hw hl
  have fx : gFx X p s m args meth c cX10_back 1 RX10 := fx
  have hl : lv_has ls 1 [(0, .ref x0)] := hl
  have hok : gOk (f_X10_back τ n x0 G) (fun q => q = (r, G')) := ⟨_, h, rfl⟩
  unfold f_X10_back at hok
  show W p l e rm_X10_back s m args below meth c s.heap [] 0 0 (MQ below (gQ X τ (some (.int r)) G') args s 0 0 (gFree X)) _
  refine lv_aload_n fx.1 fx.2.1 dX10_back_0 rfl (lv_at hl 0 rfl) ?_
  refine g_geti fx hw h0 lf_RX10_432 rfl dX10_back_1 ?_
  refine g_if_ne (tgt := 9) fx dX10_back_4 (by decide) hok (fun hok => ?_) (fun hok => ?_)
  · refine lv_iconst (v := 0) fx.1 fx.2.1 dX10_back_7 (by decide) ?_
    cases gOk_some hok
    exact g_zret fx hw hr (by decide) dX10_back_8
  · refine lv_aload_n fx.1 fx.2.1 dX10_back_9 rfl (lv_at hl 0 rfl) ?_
    refine g_getr fx hw h0 lf_RX10_70 rfl dX10_back_10 hok (fun a1 h_a1 hok => ?_)
    refine lv_aload_n fx.1 fx.2.1 dX10_back_13 rfl (lv_at hl 0 rfl) ?_
    refine g_getr fx hw h0 lf_RX10_42 rfl dX10_back_14 hok (fun a2 h_a2 hok => ?_)
    obtain ⟨G3, hf, hok⟩ := gOk_bind hok
    refine g_callV0 (κ := 6) fx hw (c_X6_become l X τ n a1 a2 G h_a1 h_a2 hf) lv_RX10_90 ⟨rfl, rfl⟩ rfl rfl h_a1 rfl hl.1 rfl ⟨Nat.le_of_ble_eq_true rfl, Nat.le_of_ble_eq_true rfl⟩ (Nat.le_of_ble_eq_true rfl) ⟨Nat.le_of_ble_eq_true rfl, Nat.le_of_ble_eq_true rfl⟩ dX10_back_17 (fun H locs hw => ?_)
    refine lv_aload_n fx.1 fx.2.1 dX10_back_20 rfl (lv_at hl 0 rfl) ?_
    refine g_getr fx hw h0 lf_RX10_76 rfl dX10_back_21 hok (fun a4 h_a4 hok => ?_)
    refine lv_aload_n fx.1 fx.2.1 dX10_back_24 rfl (lv_at hl 0 rfl) ?_
    refine g_getr fx hw h0 lf_RX10_49 rfl dX10_back_25 hok (fun a5 h_a5 hok => ?_)
    obtain ⟨G6, hf, hok⟩ := gOk_bind hok
    refine g_callV0 (κ := 1) fx hw (c_X1_become l X τ a4 a5 G3 h_a4 h_a5 hf) lv_RX10_429 ⟨rfl, rfl⟩ rfl rfl h_a4 rfl hl.1 rfl ⟨Nat.le_of_ble_eq_true rfl, Nat.le_of_ble_eq_true rfl⟩ (Nat.le_of_ble_eq_true rfl) ⟨Nat.le_of_ble_eq_true rfl, Nat.le_of_ble_eq_true rfl⟩ dX10_back_28 (fun H locs hw => ?_)
    refine lv_aload_n fx.1 fx.2.1 dX10_back_31 rfl (lv_at hl 0 rfl) ?_
    refine g_getr fx hw h0 lf_RX10_35 rfl dX10_back_32 hok (fun a7 h_a7 hok => ?_)
    obtain ⟨G8, hf, hok⟩ := gOk_bind hok
    refine g_callV0 (κ := 3) fx hw (c_X3_forget l X τ a7 G6 h_a7 hf) lv_RX10_113 ⟨rfl, rfl⟩ rfl rfl h_a7 rfl hl.1 rfl ⟨Nat.le_of_ble_eq_true rfl, Nat.le_of_ble_eq_true rfl⟩ (Nat.le_of_ble_eq_true rfl) ⟨Nat.le_of_ble_eq_true rfl, Nat.le_of_ble_eq_true rfl⟩ dX10_back_35 (fun H locs hw => ?_)
    refine lv_iconst (v := 1) fx.1 fx.2.1 dX10_back_38 (by decide) ?_
    cases gOk_some hok
    exact g_zret fx hw hr (by decide) dX10_back_39
theorem dX10_count_0 : decode cX10_count 0 = .ok (.iload_n 1, 1) := by decide +kernel
theorem dX10_count_1 : decode cX10_count 1 = .ok (.tableswitch 212 0 14 #[75, 83, 91, 99, 107, 129, 137, 145, 153, 161, 169, 177, 185, 193, 204], 75) := by decide +kernel
theorem dX10_count_76 : decode cX10_count 76 = .ok (.aload_n 0, 1) := by decide +kernel
theorem dX10_count_77 : decode cX10_count 77 = .ok (.getfield 70, 3) := by decide +kernel
theorem dX10_count_80 : decode cX10_count 80 = .ok (.getfield 296, 3) := by decide +kernel
theorem dX10_count_83 : decode cX10_count 83 = .ok (.ireturn, 1) := by decide +kernel
theorem dX10_count_84 : decode cX10_count 84 = .ok (.aload_n 0, 1) := by decide +kernel
theorem dX10_count_85 : decode cX10_count 85 = .ok (.getfield 70, 3) := by decide +kernel
theorem dX10_count_88 : decode cX10_count 88 = .ok (.getfield 286, 3) := by decide +kernel
theorem dX10_count_91 : decode cX10_count 91 = .ok (.ireturn, 1) := by decide +kernel
theorem dX10_count_92 : decode cX10_count 92 = .ok (.aload_n 0, 1) := by decide +kernel
theorem dX10_count_93 : decode cX10_count 93 = .ok (.getfield 70, 3) := by decide +kernel
theorem dX10_count_96 : decode cX10_count 96 = .ok (.getfield 332, 3) := by decide +kernel
theorem dX10_count_99 : decode cX10_count 99 = .ok (.ireturn, 1) := by decide +kernel
theorem dX10_count_100 : decode cX10_count 100 = .ok (.aload_n 0, 1) := by decide +kernel
theorem dX10_count_101 : decode cX10_count 101 = .ok (.getfield 70, 3) := by decide +kernel
theorem dX10_count_104 : decode cX10_count 104 = .ok (.getfield 105, 3) := by decide +kernel
theorem dX10_count_107 : decode cX10_count 107 = .ok (.ireturn, 1) := by decide +kernel
theorem dX10_count_108 : decode cX10_count 108 = .ok (.aload_n 0, 1) := by decide +kernel
theorem dX10_count_109 : decode cX10_count 109 = .ok (.getfield 76, 3) := by decide +kernel
theorem dX10_count_112 : decode cX10_count 112 = .ok (.getfield 435, 3) := by decide +kernel
theorem dX10_count_115 : decode cX10_count 115 = .ok (.ifCond .eq 13, 3) := by decide +kernel
theorem dX10_count_118 : decode cX10_count 118 = .ok (.aload_n 0, 1) := by decide +kernel
theorem dX10_count_119 : decode cX10_count 119 = .ok (.getfield 76, 3) := by decide +kernel
theorem dX10_count_122 : decode cX10_count 122 = .ok (.getfield 121, 3) := by decide +kernel
theorem dX10_count_125 : decode cX10_count 125 = .ok (.goto 4, 3) := by decide +kernel
theorem dX10_count_128 : decode cX10_count 128 = .ok (.iconst (-1), 1) := by decide +kernel
theorem dX10_count_129 : decode cX10_count 129 = .ok (.ireturn, 1) := by decide +kernel
theorem dX10_count_130 : decode cX10_count 130 = .ok (.aload_n 0, 1) := by decide +kernel
theorem dX10_count_131 : decode cX10_count 131 = .ok (.getfield 70, 3) := by decide +kernel
theorem dX10_count_134 : decode cX10_count 134 = .ok (.getfield 438, 3) := by decide +kernel
theorem dX10_count_137 : decode cX10_count 137 = .ok (.ireturn, 1) := by decide +kernel
theorem dX10_count_138 : decode cX10_count 138 = .ok (.aload_n 0, 1) := by decide +kernel
theorem dX10_count_139 : decode cX10_count 139 = .ok (.getfield 70, 3) := by decide +kernel
theorem dX10_count_142 : decode cX10_count 142 = .ok (.getfield 441, 3) := by decide +kernel
theorem dX10_count_145 : decode cX10_count 145 = .ok (.ireturn, 1) := by decide +kernel
theorem dX10_count_146 : decode cX10_count 146 = .ok (.aload_n 0, 1) := by decide +kernel
theorem dX10_count_147 : decode cX10_count 147 = .ok (.getfield 70, 3) := by decide +kernel
theorem dX10_count_150 : decode cX10_count 150 = .ok (.getfield 444, 3) := by decide +kernel
theorem dX10_count_153 : decode cX10_count 153 = .ok (.ireturn, 1) := by decide +kernel
theorem dX10_count_154 : decode cX10_count 154 = .ok (.aload_n 0, 1) := by decide +kernel
theorem dX10_count_155 : decode cX10_count 155 = .ok (.getfield 70, 3) := by decide +kernel
theorem dX10_count_158 : decode cX10_count 158 = .ok (.invokevirtual 388, 3) := by decide +kernel
theorem dX10_count_161 : decode cX10_count 161 = .ok (.ireturn, 1) := by decide +kernel
theorem dX10_count_162 : decode cX10_count 162 = .ok (.aload_n 0, 1) := by decide +kernel
theorem dX10_count_163 : decode cX10_count 163 = .ok (.getfield 70, 3) := by decide +kernel
theorem dX10_count_166 : decode cX10_count 166 = .ok (.getfield 400, 3) := by decide +kernel
theorem dX10_count_169 : decode cX10_count 169 = .ok (.ireturn, 1) := by decide +kernel
theorem dX10_count_170 : decode cX10_count 170 = .ok (.aload_n 0, 1) := by decide +kernel
theorem dX10_count_171 : decode cX10_count 171 = .ok (.getfield 70, 3) := by decide +kernel
theorem dX10_count_174 : decode cX10_count 174 = .ok (.getfield 289, 3) := by decide +kernel
theorem dX10_count_177 : decode cX10_count 177 = .ok (.ireturn, 1) := by decide +kernel
theorem dX10_count_178 : decode cX10_count 178 = .ok (.aload_n 0, 1) := by decide +kernel
theorem dX10_count_179 : decode cX10_count 179 = .ok (.getfield 70, 3) := by decide +kernel
theorem dX10_count_182 : decode cX10_count 182 = .ok (.getfield 277, 3) := by decide +kernel
theorem dX10_count_185 : decode cX10_count 185 = .ok (.ireturn, 1) := by decide +kernel
theorem dX10_count_186 : decode cX10_count 186 = .ok (.aload_n 0, 1) := by decide +kernel
theorem dX10_count_187 : decode cX10_count 187 = .ok (.getfield 70, 3) := by decide +kernel
theorem dX10_count_190 : decode cX10_count 190 = .ok (.invokevirtual 391, 3) := by decide +kernel
theorem dX10_count_193 : decode cX10_count 193 = .ok (.ireturn, 1) := by decide +kernel
theorem dX10_count_194 : decode cX10_count 194 = .ok (.aload_n 0, 1) := by decide +kernel
theorem dX10_count_195 : decode cX10_count 195 = .ok (.getfield 70, 3) := by decide +kernel
theorem dX10_count_198 : decode cX10_count 198 = .ok (.getfield 409, 3) := by decide +kernel
theorem dX10_count_201 : decode cX10_count 201 = .ok (.getfield 447, 3) := by decide +kernel
theorem dX10_count_204 : decode cX10_count 204 = .ok (.ireturn, 1) := by decide +kernel
theorem dX10_count_205 : decode cX10_count 205 = .ok (.aload_n 0, 1) := by decide +kernel
theorem dX10_count_206 : decode cX10_count 206 = .ok (.getfield 35, 3) := by decide +kernel
theorem dX10_count_209 : decode cX10_count 209 = .ok (.getfield 450, 3) := by decide +kernel
theorem dX10_count_212 : decode cX10_count 212 = .ok (.ireturn, 1) := by decide +kernel
theorem dX10_count_213 : decode cX10_count 213 = .ok (.iconst (-1), 1) := by decide +kernel
theorem dX10_count_214 : decode cX10_count 214 = .ok (.ireturn, 1) := by decide +kernel
theorem lf_RX10_105 : gLf RX10 105 6 7 := ⟨(RX6, TX6, 15), rfl, by decide, wA_t (wt2 (List.mem_of_getElem? (i := 26) (by decide +kernel))) (by decide +kernel), rfl⟩
theorem lf_RX10_435 : gLf RX10 435 1 8 := ⟨(RX1, TX1, 9), rfl, by decide, wA_t (wt2 (List.mem_of_getElem? (i := 104) (by decide +kernel))) (by decide +kernel), rfl⟩
theorem lf_RX10_121 : gLf RX10 121 1 6 := ⟨(RX1, TX1, 9), rfl, by decide, wA_t (wt2 (List.mem_of_getElem? (i := 100) (by decide +kernel))) (by decide +kernel), rfl⟩
theorem lf_RX10_438 : gLf RX10 438 6 10 := ⟨(RX6, TX6, 15), rfl, by decide, wA_t (wt2 (List.mem_of_getElem? (i := 34) (by decide +kernel))) (by decide +kernel), rfl⟩
theorem lf_RX10_441 : gLf RX10 441 6 8 := ⟨(RX6, TX6, 15), rfl, by decide, wA_t (wt2 (List.mem_of_getElem? (i := 29) (by decide +kernel))) (by decide +kernel), rfl⟩
theorem lf_RX10_444 : gLf RX10 444 6 9 := ⟨(RX6, TX6, 15), rfl, by decide, wA_t (wt2 (List.mem_of_getElem? (i := 32) (by decide +kernel))) (by decide +kernel), rfl⟩
theorem lf_RX10_400 : gLf RX10 400 6 13 := ⟨(RX6, TX6, 15), rfl, by decide, wA_t (wt2 (List.mem_of_getElem? (i := 40) (by decide +kernel))) (by decide +kernel), rfl⟩
theorem lf_RX10_289 : gLf RX10 289 6 14 := ⟨(RX6, TX6, 15), rfl, by decide, wA_t (wt2 (List.mem_of_getElem? (i := 42) (by decide +kernel))) (by decide +kernel), rfl⟩
theorem lf_RX10_277 : gLf RX10 277 6 12 := ⟨(RX6, TX6, 15), rfl, by decide, wA_t (wt2 (List.mem_of_getElem? (i := 38) (by decide +kernel))) (by decide +kernel), rfl⟩
theorem lf_RX10_409 : gLf RX10 409 6 3 := ⟨(RX6, TX6, 15), rfl, by decide, wA_t (wt2 (List.mem_of_getElem? (i := 15) (by decide +kernel))) (by decide +kernel), rfl⟩
theorem lf_RX10_447 : gLf RX10 447 0 1 := ⟨(RX0, TX0, 3), rfl, by decide, wA_t (wt1 (List.mem_of_getElem? (i := 119) (by decide +kernel))) (by decide +kernel), rfl⟩
theorem lf_RX10_450 : gLf RX10 450 3 1 := ⟨(RX3, TX3, 3), rfl, by decide, wA_t (wt2 (List.mem_of_getElem? (i := 76) (by decide +kernel))) (by decide +kernel), rfl⟩
def rm_X10_count : Room := { frames := 1, cells := 0, slots := 0, locals := 22 }
def f_X10_count (τ : gτ) (n : Nat) (x0 : Nat) (x1 : Int32) (G : gG) : Option (Int32) :=
  if x1 = 0 then ((gr G 10 10 x0).bind fun a1 =>
  some (gi G 6 4 a1))
  else if x1 = 1 then ((gr G 10 10 x0).bind fun a2 =>
  some (gi G 6 5 a2))
  else if x1 = 2 then ((gr G 10 10 x0).bind fun a3 =>
  some (gi G 6 6 a3))
  else if x1 = 3 then ((gr G 10 10 x0).bind fun a4 =>
  some (gi G 6 7 a4))
  else if x1 = 4 then ((gr G 10 12 x0).bind fun a5 =>
  if (gi G 1 8 a5) = 0 then (some ((-1)))
  else ((gr G 10 12 x0).bind fun a6 =>
  some (gi G 1 6 a6)))
  else if x1 = 5 then ((gr G 10 10 x0).bind fun a7 =>
  some (gi G 6 10 a7))
  else if x1 = 6 then ((gr G 10 10 x0).bind fun a8 =>
  some (gi G 6 8 a8))
  else if x1 = 7 then ((gr G 10 10 x0).bind fun a9 =>
  some (gi G 6 9 a9))
  else if x1 = 8 then ((gr G 10 10 x0).bind fun a10 =>
  (f_X6_hangingLoads τ n a10 G).bind fun v11 =>
  some (v11))
  else if x1 = 9 then ((gr G 10 10 x0).bind fun a12 =>
  some (gi G 6 13 a12))
  else if x1 = 10 then ((gr G 10 10 x0).bind fun a13 =>
  some (gi G 6 14 a13))
  else if x1 = 11 then ((gr G 10 10 x0).bind fun a14 =>
  some (gi G 6 12 a14))
  else if x1 = 12 then ((gr G 10 10 x0).bind fun a15 =>
  (f_X6_brokenRopes τ n a15 G).bind fun v16 =>
  some (v16))
  else if x1 = 13 then ((gr G 10 10 x0).bind fun a17 =>
  (gr G 6 3 a17).bind fun a18 =>
  some (gi G 0 1 a18))
  else if x1 = 14 then ((gr G 10 3 x0).bind fun a19 =>
  some (gi G 3 1 a19))
  else (some ((-1)))
set_option maxHeartbeats 4000000 in
set_option maxRecDepth 100000 in
theorem c_X10_count (l : Launch) (X : gX) (τ : gτ) (n : Nat) (x0 : Nat) (x1 : Int32) (G : gG) (h0 : gK τ x0 10) {r : Int32}  (h : f_X10_count τ n x0 x1 G = some r) : gM l X τ yX10_count cX10_count 2 (some .int) rm_X10_count [.ref x0, .int x1] G (some (.int r)) G := by
  refine g_body (by decide +kernel) (Nat.le_of_ble_eq_true rfl) ?_
  intro p e s m args below meth c ls fx hr hw hl
  have fx : gFx X p s m args meth c cX10_count 2 RX10 := fx
  have hl : lv_has ls 2 [(0, .ref x0), (1, .int x1)] := hl
  have hok : gOk (f_X10_count τ n x0 x1 G) (fun q => q = r) := ⟨_, h, rfl⟩
  unfold f_X10_count at hok
  show W p l e rm_X10_count s m args below meth c s.heap [] 0 0 (MQ below (gQ X τ (some (.int r)) G) args s 0 0 (gFree X)) _
  refine lv_iload_n fx.1 fx.2.1 dX10_count_0 rfl (lv_at hl 1 rfl) ?_
  by_cases hc0 : x1 = 0
  · have hok := gOk_t hok hc0
    refine lv_tableIn (tgt := 76) fx.1 fx.2.1 dX10_count_1 (by rw [hc0]; decide) (by rw [hc0]; decide) (by rw [hc0]; rfl) (by decide) ?_
    refine lv_aload_n fx.1 fx.2.1 dX10_count_76 rfl (lv_at hl 0 rfl) ?_
    refine g_getr fx hw h0 lf_RX10_70 rfl dX10_count_77 hok (fun a1 h_a1 hok => ?_)
    refine g_geti fx hw h_a1 lf_RX10_296 rfl dX10_count_80 ?_
    cases gOk_some hok
    exact g_iret fx hw hr dX10_count_83
  have hok := gOk_f hok hc0
  by_cases hc1 : x1 = 1
  · have hok := gOk_t hok hc1
    refine lv_tableIn (tgt := 84) fx.1 fx.2.1 dX10_count_1 (by rw [hc1]; decide) (by rw [hc1]; decide) (by rw [hc1]; rfl) (by decide) ?_
    refine lv_aload_n fx.1 fx.2.1 dX10_count_84 rfl (lv_at hl 0 rfl) ?_
    refine g_getr fx hw h0 lf_RX10_70 rfl dX10_count_85 hok (fun a2 h_a2 hok => ?_)
    refine g_geti fx hw h_a2 lf_RX10_286 rfl dX10_count_88 ?_
    cases gOk_some hok
    exact g_iret fx hw hr dX10_count_91
  have hok := gOk_f hok hc1
  by_cases hc2 : x1 = 2
  · have hok := gOk_t hok hc2
    refine lv_tableIn (tgt := 92) fx.1 fx.2.1 dX10_count_1 (by rw [hc2]; decide) (by rw [hc2]; decide) (by rw [hc2]; rfl) (by decide) ?_
    refine lv_aload_n fx.1 fx.2.1 dX10_count_92 rfl (lv_at hl 0 rfl) ?_
    refine g_getr fx hw h0 lf_RX10_70 rfl dX10_count_93 hok (fun a3 h_a3 hok => ?_)
    refine g_geti fx hw h_a3 lf_RX10_332 rfl dX10_count_96 ?_
    cases gOk_some hok
    exact g_iret fx hw hr dX10_count_99
  have hok := gOk_f hok hc2
  by_cases hc3 : x1 = 3
  · have hok := gOk_t hok hc3
    refine lv_tableIn (tgt := 100) fx.1 fx.2.1 dX10_count_1 (by rw [hc3]; decide) (by rw [hc3]; decide) (by rw [hc3]; rfl) (by decide) ?_
    refine lv_aload_n fx.1 fx.2.1 dX10_count_100 rfl (lv_at hl 0 rfl) ?_
    refine g_getr fx hw h0 lf_RX10_70 rfl dX10_count_101 hok (fun a4 h_a4 hok => ?_)
    refine g_geti fx hw h_a4 lf_RX10_105 rfl dX10_count_104 ?_
    cases gOk_some hok
    exact g_iret fx hw hr dX10_count_107
  have hok := gOk_f hok hc3
  by_cases hc4 : x1 = 4
  · have hok := gOk_t hok hc4
    refine lv_tableIn (tgt := 108) fx.1 fx.2.1 dX10_count_1 (by rw [hc4]; decide) (by rw [hc4]; decide) (by rw [hc4]; rfl) (by decide) ?_
    refine lv_aload_n fx.1 fx.2.1 dX10_count_108 rfl (lv_at hl 0 rfl) ?_
    refine g_getr fx hw h0 lf_RX10_76 rfl dX10_count_109 hok (fun a5 h_a5 hok => ?_)
    refine g_geti fx hw h_a5 lf_RX10_435 rfl dX10_count_112 ?_
    refine g_if_eq (tgt := 128) fx dX10_count_115 (by decide) hok (fun hok => ?_) (fun hok => ?_)
    · refine lv_iconst (v := (-1)) fx.1 fx.2.1 dX10_count_128 (by decide) ?_
      cases gOk_some hok
      exact g_iret fx hw hr dX10_count_129
    · refine lv_aload_n fx.1 fx.2.1 dX10_count_118 rfl (lv_at hl 0 rfl) ?_
      refine g_getr fx hw h0 lf_RX10_76 rfl dX10_count_119 hok (fun a6 h_a6 hok => ?_)
      refine g_geti fx hw h_a6 lf_RX10_121 rfl dX10_count_122 ?_
      refine lv_goto (tgt := 129) fx.1 fx.2.1 dX10_count_125 (by decide) ?_
      cases gOk_some hok
      exact g_iret fx hw hr dX10_count_129
  have hok := gOk_f hok hc4
  by_cases hc5 : x1 = 5
  · have hok := gOk_t hok hc5
    refine lv_tableIn (tgt := 130) fx.1 fx.2.1 dX10_count_1 (by rw [hc5]; decide) (by rw [hc5]; decide) (by rw [hc5]; rfl) (by decide) ?_
    refine lv_aload_n fx.1 fx.2.1 dX10_count_130 rfl (lv_at hl 0 rfl) ?_
    refine g_getr fx hw h0 lf_RX10_70 rfl dX10_count_131 hok (fun a7 h_a7 hok => ?_)
    refine g_geti fx hw h_a7 lf_RX10_438 rfl dX10_count_134 ?_
    cases gOk_some hok
    exact g_iret fx hw hr dX10_count_137
  have hok := gOk_f hok hc5
  by_cases hc6 : x1 = 6
  · have hok := gOk_t hok hc6
    refine lv_tableIn (tgt := 138) fx.1 fx.2.1 dX10_count_1 (by rw [hc6]; decide) (by rw [hc6]; decide) (by rw [hc6]; rfl) (by decide) ?_
    refine lv_aload_n fx.1 fx.2.1 dX10_count_138 rfl (lv_at hl 0 rfl) ?_
    refine g_getr fx hw h0 lf_RX10_70 rfl dX10_count_139 hok (fun a8 h_a8 hok => ?_)
    refine g_geti fx hw h_a8 lf_RX10_441 rfl dX10_count_142 ?_
    cases gOk_some hok
    exact g_iret fx hw hr dX10_count_145
  have hok := gOk_f hok hc6
  by_cases hc7 : x1 = 7
  · have hok := gOk_t hok hc7
    refine lv_tableIn (tgt := 146) fx.1 fx.2.1 dX10_count_1 (by rw [hc7]; decide) (by rw [hc7]; decide) (by rw [hc7]; rfl) (by decide) ?_
    refine lv_aload_n fx.1 fx.2.1 dX10_count_146 rfl (lv_at hl 0 rfl) ?_
    refine g_getr fx hw h0 lf_RX10_70 rfl dX10_count_147 hok (fun a9 h_a9 hok => ?_)
    refine g_geti fx hw h_a9 lf_RX10_444 rfl dX10_count_150 ?_
    cases gOk_some hok
    exact g_iret fx hw hr dX10_count_153
  have hok := gOk_f hok hc7
  by_cases hc8 : x1 = 8
  · have hok := gOk_t hok hc8
    refine lv_tableIn (tgt := 154) fx.1 fx.2.1 dX10_count_1 (by rw [hc8]; decide) (by rw [hc8]; decide) (by rw [hc8]; rfl) (by decide) ?_
    refine lv_aload_n fx.1 fx.2.1 dX10_count_154 rfl (lv_at hl 0 rfl) ?_
    refine g_getr fx hw h0 lf_RX10_70 rfl dX10_count_155 hok (fun a10 h_a10 hok => ?_)
    obtain ⟨v11, hf, hok⟩ := gOk_bind hok
    refine g_callV0 (κ := 6) fx hw (c_X6_hangingLoads l X τ n a10 G h_a10 hf) lv_RX10_388 ⟨rfl, rfl⟩ rfl rfl h_a10 rfl hl.1 rfl ⟨Nat.le_of_ble_eq_true rfl, Nat.le_of_ble_eq_true rfl⟩ (Nat.le_of_ble_eq_true rfl) ⟨Nat.le_of_ble_eq_true rfl, Nat.le_of_ble_eq_true rfl⟩ dX10_count_158 (fun H locs hw => ?_)
    cases gOk_some hok
    exact g_iret fx hw hr dX10_count_161
  have hok := gOk_f hok hc8
  by_cases hc9 : x1 = 9
  · have hok := gOk_t hok hc9
    refine lv_tableIn (tgt := 162) fx.1 fx.2.1 dX10_count_1 (by rw [hc9]; decide) (by rw [hc9]; decide) (by rw [hc9]; rfl) (by decide) ?_
    refine lv_aload_n fx.1 fx.2.1 dX10_count_162 rfl (lv_at hl 0 rfl) ?_
    refine g_getr fx hw h0 lf_RX10_70 rfl dX10_count_163 hok (fun a12 h_a12 hok => ?_)
    refine g_geti fx hw h_a12 lf_RX10_400 rfl dX10_count_166 ?_
    cases gOk_some hok
    exact g_iret fx hw hr dX10_count_169
  have hok := gOk_f hok hc9
  by_cases hc10 : x1 = 10
  · have hok := gOk_t hok hc10
    refine lv_tableIn (tgt := 170) fx.1 fx.2.1 dX10_count_1 (by rw [hc10]; decide) (by rw [hc10]; decide) (by rw [hc10]; rfl) (by decide) ?_
    refine lv_aload_n fx.1 fx.2.1 dX10_count_170 rfl (lv_at hl 0 rfl) ?_
    refine g_getr fx hw h0 lf_RX10_70 rfl dX10_count_171 hok (fun a13 h_a13 hok => ?_)
    refine g_geti fx hw h_a13 lf_RX10_289 rfl dX10_count_174 ?_
    cases gOk_some hok
    exact g_iret fx hw hr dX10_count_177
  have hok := gOk_f hok hc10
  by_cases hc11 : x1 = 11
  · have hok := gOk_t hok hc11
    refine lv_tableIn (tgt := 178) fx.1 fx.2.1 dX10_count_1 (by rw [hc11]; decide) (by rw [hc11]; decide) (by rw [hc11]; rfl) (by decide) ?_
    refine lv_aload_n fx.1 fx.2.1 dX10_count_178 rfl (lv_at hl 0 rfl) ?_
    refine g_getr fx hw h0 lf_RX10_70 rfl dX10_count_179 hok (fun a14 h_a14 hok => ?_)
    refine g_geti fx hw h_a14 lf_RX10_277 rfl dX10_count_182 ?_
    cases gOk_some hok
    exact g_iret fx hw hr dX10_count_185
  have hok := gOk_f hok hc11
  by_cases hc12 : x1 = 12
  · have hok := gOk_t hok hc12
    refine lv_tableIn (tgt := 186) fx.1 fx.2.1 dX10_count_1 (by rw [hc12]; decide) (by rw [hc12]; decide) (by rw [hc12]; rfl) (by decide) ?_
    refine lv_aload_n fx.1 fx.2.1 dX10_count_186 rfl (lv_at hl 0 rfl) ?_
    refine g_getr fx hw h0 lf_RX10_70 rfl dX10_count_187 hok (fun a15 h_a15 hok => ?_)
    obtain ⟨v16, hf, hok⟩ := gOk_bind hok
    refine g_callV0 (κ := 6) fx hw (c_X6_brokenRopes l X τ n a15 G h_a15 hf) lv_RX10_391 ⟨rfl, rfl⟩ rfl rfl h_a15 rfl hl.1 rfl ⟨Nat.le_of_ble_eq_true rfl, Nat.le_of_ble_eq_true rfl⟩ (Nat.le_of_ble_eq_true rfl) ⟨Nat.le_of_ble_eq_true rfl, Nat.le_of_ble_eq_true rfl⟩ dX10_count_190 (fun H locs hw => ?_)
    cases gOk_some hok
    exact g_iret fx hw hr dX10_count_193
  have hok := gOk_f hok hc12
  by_cases hc13 : x1 = 13
  · have hok := gOk_t hok hc13
    refine lv_tableIn (tgt := 194) fx.1 fx.2.1 dX10_count_1 (by rw [hc13]; decide) (by rw [hc13]; decide) (by rw [hc13]; rfl) (by decide) ?_
    refine lv_aload_n fx.1 fx.2.1 dX10_count_194 rfl (lv_at hl 0 rfl) ?_
    refine g_getr fx hw h0 lf_RX10_70 rfl dX10_count_195 hok (fun a17 h_a17 hok => ?_)
    refine g_getr fx hw h_a17 lf_RX10_409 rfl dX10_count_198 hok (fun a18 h_a18 hok => ?_)
    refine g_geti fx hw h_a18 lf_RX10_447 rfl dX10_count_201 ?_
    cases gOk_some hok
    exact g_iret fx hw hr dX10_count_204
  have hok := gOk_f hok hc13
  by_cases hc14 : x1 = 14
  · have hok := gOk_t hok hc14
    refine lv_tableIn (tgt := 205) fx.1 fx.2.1 dX10_count_1 (by rw [hc14]; decide) (by rw [hc14]; decide) (by rw [hc14]; rfl) (by decide) ?_
    refine lv_aload_n fx.1 fx.2.1 dX10_count_205 rfl (lv_at hl 0 rfl) ?_
    refine g_getr fx hw h0 lf_RX10_35 rfl dX10_count_206 hok (fun a19 h_a19 hok => ?_)
    refine g_geti fx hw h_a19 lf_RX10_450 rfl dX10_count_209 ?_
    cases gOk_some hok
    exact g_iret fx hw hr dX10_count_212
  have hok := gOk_f hok hc14
  refine lv_tableOut (tgt := 213) fx.1 fx.2.1 dX10_count_1 (gOut 0 15 (by decide) (by decide) (by decide) (by decide) (fun j hj => ?_)) (by decide) ?_
  · match j, hj with
    | 0, _ => exact hc0
    | 1, _ => exact hc1
    | 2, _ => exact hc2
    | 3, _ => exact hc3
    | 4, _ => exact hc4
    | 5, _ => exact hc5
    | 6, _ => exact hc6
    | 7, _ => exact hc7
    | 8, _ => exact hc8
    | 9, _ => exact hc9
    | 10, _ => exact hc10
    | 11, _ => exact hc11
    | 12, _ => exact hc12
    | 13, _ => exact hc13
    | 14, _ => exact hc14
  · refine lv_iconst (v := (-1)) fx.1 fx.2.1 dX10_count_213 (by decide) ?_
    cases gOk_some hok
    exact g_iret fx hw hr dX10_count_214
