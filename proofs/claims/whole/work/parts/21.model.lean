theorem dX11_readLine_0 : decode cX11_readLine 0 = .ok (.aload_n 0, 1) := by decide +kernel
theorem dX11_readLine_1 : decode cX11_readLine 1 = .ok (.invokevirtual 108, 3) := by decide +kernel
theorem dX11_readLine_4 : decode cX11_readLine 4 = .ok (.iload_n 2, 1) := by decide +kernel
theorem dX11_readLine_5 : decode cX11_readLine 5 = .ok (.iload_n 1, 1) := by decide +kernel
theorem dX11_readLine_6 : decode cX11_readLine 6 = .ok (.ifCond .eq 8, 3) := by decide +kernel
theorem dX11_readLine_9 : decode cX11_readLine 9 = .ok (.bipush 14, 2) := by decide +kernel
theorem dX11_readLine_11 : decode cX11_readLine 11 = .ok (.goto 5, 3) := by decide +kernel
theorem dX11_readLine_14 : decode cX11_readLine 14 = .ok (.bipush 12, 2) := by decide +kernel
theorem dX11_readLine_16 : decode cX11_readLine 16 = .ok (.if_icmp .ge 29, 3) := by decide +kernel
theorem dX11_readLine_19 : decode cX11_readLine 19 = .ok (.iload_n 1, 1) := by decide +kernel
theorem dX11_readLine_20 : decode cX11_readLine 20 = .ok (.ifCond .eq 13, 3) := by decide +kernel
theorem dX11_readLine_23 : decode cX11_readLine 23 = .ok (.aload_n 0, 1) := by decide +kernel
theorem dX11_readLine_24 : decode cX11_readLine 24 = .ok (.invokevirtual 246, 3) := by decide +kernel
theorem dX11_readLine_27 : decode cX11_readLine 27 = .ok (.ifCond .eq 18, 3) := by decide +kernel
theorem dX11_readLine_30 : decode cX11_readLine 30 = .ok (.goto 11, 3) := by decide +kernel
theorem dX11_readLine_33 : decode cX11_readLine 33 = .ok (.aload_n 0, 1) := by decide +kernel
theorem dX11_readLine_34 : decode cX11_readLine 34 = .ok (.iload_n 2, 1) := by decide +kernel
theorem dX11_readLine_35 : decode cX11_readLine 35 = .ok (.invokevirtual 249, 3) := by decide +kernel
theorem dX11_readLine_38 : decode cX11_readLine 38 = .ok (.ifCond .eq 7, 3) := by decide +kernel
theorem dX11_readLine_41 : decode cX11_readLine 41 = .ok (.iconst 1, 1) := by decide +kernel
theorem dX11_readLine_42 : decode cX11_readLine 42 = .ok (.goto 4, 3) := by decide +kernel
theorem dX11_readLine_45 : decode cX11_readLine 45 = .ok (.iconst 0, 1) := by decide +kernel
theorem dX11_readLine_46 : decode cX11_readLine 46 = .ok (.ireturn, 1) := by decide +kernel
theorem lv_RX11_249 : gLv RX11 249 RX11 yX11_readLawLine cX11_readLawLine 4 (some .boolean) 1 := gLv_of (wA_t (wt7 (List.mem_of_getElem? (i := 175) (by decide +kernel))) (by decide +kernel)) (wA_t (wt7 (List.mem_of_getElem? (i := 177) (by decide +kernel))) (by decide +kernel)) (wA_of (List.mem_append_left _ (List.mem_map.mpr ⟨(⟨"YearRopeModel", "readLawLine", "(I)Z"⟩, 20), wp5 (List.mem_of_getElem? (i := 1) (by decide +kernel)), rfl⟩)) (by decide +kernel)) (wA_t (wt1 (List.mem_of_getElem? (i := 12) (by decide +kernel))) (by decide +kernel)) (wA_t (wt7 (List.mem_of_getElem? (i := 178) (by decide +kernel))) (by decide +kernel)) ⟨rfl, by decide +kernel, by decide +kernel, by decide +kernel⟩
theorem lv_RX11_246 : gLv RX11 246 RX11 yX11_readWalkLine cX11_readWalkLine 1 (some .boolean) 0 := gLv_of (wA_t (wt7 (List.mem_of_getElem? (i := 86) (by decide +kernel))) (by decide +kernel)) (wA_t (wt7 (List.mem_of_getElem? (i := 88) (by decide +kernel))) (by decide +kernel)) (wA_of (List.mem_append_left _ (List.mem_map.mpr ⟨(⟨"YearRopeModel", "readWalkLine", "()Z"⟩, 20), wp4 (List.mem_of_getElem? (i := 0) (by decide +kernel)), rfl⟩)) (by decide +kernel)) (wA_t (wt1 (List.mem_of_getElem? (i := 12) (by decide +kernel))) (by decide +kernel)) (wA_t (wt7 (List.mem_of_getElem? (i := 89) (by decide +kernel))) (by decide +kernel)) ⟨rfl, by decide +kernel, by decide +kernel, by decide +kernel⟩
def rm_X11_readLine : Room := { frames := 52, cells := 0, slots := 0, locals := 1643 }
def k_X11_readLine_16 (τ : gτ) (n : Nat) (x0 : Nat) (x1 : Int32) (x2 : Int32) (s0 : Int32) (s1 : Int32) (G : gG) : Option (Int32 × gG) :=
  if s1 ≤ s0 then (some (0, G))
  else (if x1 = 0 then (gBind2 (f_X11_readLawLine τ n x0 x2 G) fun v2 G3 =>
  if v2 = 0 then (some (0, G3))
  else (some (1, G3)))
  else (gBind2 (f_X11_readWalkLine τ n x0 G) fun v4 G5 =>
  if v4 = 0 then (some (0, G5))
  else (some (1, G5))))
def f_X11_readLine (τ : gτ) (n : Nat) (x0 : Nat) (x1 : Int32) (x2 : Int32) (G : gG) : Option (Int32 × gG) :=
  (f_X11_letters τ n x0 G).bind fun G1 =>
  if x1 = 0 then (k_X11_readLine_16 τ n x0 x1 x2 x2 (12 : Int32) G1)
  else (k_X11_readLine_16 τ n x0 x1 x2 x2 (14 : Int32) G1)
set_option maxHeartbeats 4000000 in
set_option maxRecDepth 100000 in
theorem w_X11_readLine_16 {X : gX} {τ : gτ} {p : Program} {l : Launch} {e : Env} {s : State} {m : MethodId} {args : Array Value} {below : List Frame} {meth : Method} {c : Code} (fx : gFx X p s m args meth c cX11_readLine 3 RX11) (hS : gS0 l X) (n : Nat) (x0 : Nat) (x1 : Int32) (x2 : Int32) (s0 : Int32) (s1 : Int32) (h0 : gK τ x0 11)  (hr : meth.sig.returnType = (some .boolean)) {r : Int32} {G' : gG} {G : gG} {H : Heap} {locs : List Loc} {ls : Array Slot} (hw : gHw X τ G H locs) (hl : lv_has ls 3 [(0, .ref x0), (1, .int x1), (2, .int x2)]) (hok : gOk (k_X11_readLine_16 τ n x0 x1 x2 s0 s1 G) (fun q => q = (r, G')))  : W p l e rm_X11_readLine s m args below meth c H locs 0 0 (MQ below (gQ X τ (some (.int r)) G') args s 0 0 (gFree X)) (F0 m 16 ls [.int s1, .int s0]) := by
  unfold k_X11_readLine_16 at hok
  refine g_icmp_ge (tgt := 45) fx dX11_readLine_16 (by decide) hok (fun hok => ?_) (fun hok => ?_)
  · refine lv_iconst (v := 0) fx.1 fx.2.1 dX11_readLine_45 (by decide) ?_
    cases gOk_some hok
    exact g_zret fx hw hr (by decide) dX11_readLine_46
  · refine lv_iload_n fx.1 fx.2.1 dX11_readLine_19 rfl (lv_at hl 1 rfl) ?_
    refine g_if_eq (tgt := 33) fx dX11_readLine_20 (by decide) hok (fun hok => ?_) (fun hok => ?_)
    · refine lv_aload_n fx.1 fx.2.1 dX11_readLine_33 rfl (lv_at hl 0 rfl) ?_
      refine lv_iload_n fx.1 fx.2.1 dX11_readLine_34 rfl (lv_at hl 2 rfl) ?_
      obtain ⟨v2, G3, hf, hok⟩ := gOk_bind2 hok
      refine g_callV0 (κ := 11) fx hw (c_X11_readLawLine l X τ n hS x0 x2 G h0 hf) lv_RX11_249 ⟨rfl, rfl⟩ rfl rfl h0 rfl hl.1 rfl ⟨Nat.le_of_ble_eq_true rfl, Nat.le_of_ble_eq_true rfl⟩ (Nat.le_of_ble_eq_true rfl) ⟨Nat.le_of_ble_eq_true rfl, Nat.le_of_ble_eq_true rfl⟩ dX11_readLine_35 (fun H locs hw => ?_)
      refine g_if_eq (tgt := 45) fx dX11_readLine_38 (by decide) hok (fun hok => ?_) (fun hok => ?_)
      · refine lv_iconst (v := 0) fx.1 fx.2.1 dX11_readLine_45 (by decide) ?_
        cases gOk_some hok
        exact g_zret fx hw hr (by decide) dX11_readLine_46
      · refine lv_iconst (v := 1) fx.1 fx.2.1 dX11_readLine_41 (by decide) ?_
        refine lv_goto (tgt := 46) fx.1 fx.2.1 dX11_readLine_42 (by decide) ?_
        cases gOk_some hok
        exact g_zret fx hw hr (by decide) dX11_readLine_46
    · refine lv_aload_n fx.1 fx.2.1 dX11_readLine_23 rfl (lv_at hl 0 rfl) ?_
      obtain ⟨v4, G5, hf, hok⟩ := gOk_bind2 hok
      refine g_callV0 (κ := 11) fx hw (c_X11_readWalkLine l X τ n hS x0 G h0 hf) lv_RX11_246 ⟨rfl, rfl⟩ rfl rfl h0 rfl hl.1 rfl ⟨Nat.le_of_ble_eq_true rfl, Nat.le_of_ble_eq_true rfl⟩ (Nat.le_of_ble_eq_true rfl) ⟨Nat.le_of_ble_eq_true rfl, Nat.le_of_ble_eq_true rfl⟩ dX11_readLine_24 (fun H locs hw => ?_)
      refine g_if_eq (tgt := 45) fx dX11_readLine_27 (by decide) hok (fun hok => ?_) (fun hok => ?_)
      · refine lv_iconst (v := 0) fx.1 fx.2.1 dX11_readLine_45 (by decide) ?_
        cases gOk_some hok
        exact g_zret fx hw hr (by decide) dX11_readLine_46
      · refine lv_goto (tgt := 41) fx.1 fx.2.1 dX11_readLine_30 (by decide) ?_
        refine lv_iconst (v := 1) fx.1 fx.2.1 dX11_readLine_41 (by decide) ?_
        refine lv_goto (tgt := 46) fx.1 fx.2.1 dX11_readLine_42 (by decide) ?_
        cases gOk_some hok
        exact g_zret fx hw hr (by decide) dX11_readLine_46
set_option maxHeartbeats 4000000 in
set_option maxRecDepth 100000 in
theorem c_X11_readLine (l : Launch) (X : gX) (τ : gτ) (n : Nat) (hS : gS0 l X) (x0 : Nat) (x1 : Int32) (x2 : Int32) (G : gG) (h0 : gK τ x0 11) {r : Int32} {G' : gG} (h : f_X11_readLine τ n x0 x1 x2 G = some (r, G')) : gM l X τ yX11_readLine cX11_readLine 3 (some .boolean) rm_X11_readLine [.ref x0, .int x1, .int x2] G (some (.int r)) G' := by
  refine g_body (by decide +kernel) (Nat.le_of_ble_eq_true rfl) ?_
  intro p e s m args below meth c ls fx hr hw hl
  have fx : gFx X p s m args meth c cX11_readLine 3 RX11 := fx
  have hl : lv_has ls 3 [(0, .ref x0), (1, .int x1), (2, .int x2)] := hl
  have hok : gOk (f_X11_readLine τ n x0 x1 x2 G) (fun q => q = (r, G')) := ⟨_, h, rfl⟩
  unfold f_X11_readLine at hok
  show W p l e rm_X11_readLine s m args below meth c s.heap [] 0 0 (MQ below (gQ X τ (some (.int r)) G') args s 0 0 (gFree X)) _
  refine lv_aload_n fx.1 fx.2.1 dX11_readLine_0 rfl (lv_at hl 0 rfl) ?_
  obtain ⟨G1, hf, hok⟩ := gOk_bind hok
  refine g_callV0 (κ := 11) fx hw (c_X11_letters l X τ n x0 G h0 hf) lv_RX11_108 ⟨rfl, rfl⟩ rfl rfl h0 rfl hl.1 rfl ⟨Nat.le_of_ble_eq_true rfl, Nat.le_of_ble_eq_true rfl⟩ (Nat.le_of_ble_eq_true rfl) ⟨Nat.le_of_ble_eq_true rfl, Nat.le_of_ble_eq_true rfl⟩ dX11_readLine_1 (fun H locs hw => ?_)
  refine lv_iload_n fx.1 fx.2.1 dX11_readLine_4 rfl (lv_at hl 2 rfl) ?_
  refine lv_iload_n fx.1 fx.2.1 dX11_readLine_5 rfl (lv_at hl 1 rfl) ?_
  refine g_if_eq (tgt := 14) fx dX11_readLine_6 (by decide) hok (fun hok => ?_) (fun hok => ?_)
  · refine lv_bipush (v := 12) fx.1 fx.2.1 dX11_readLine_14 (by decide) ?_
    exact w_X11_readLine_16 fx hS n x0 x1 x2 x2 (12 : Int32) h0  hr hw (lv_sub hl [0, 1, 2] rfl) hok
  · refine lv_bipush (v := 14) fx.1 fx.2.1 dX11_readLine_9 (by decide) ?_
    refine lv_goto (tgt := 16) fx.1 fx.2.1 dX11_readLine_11 (by decide) ?_
    exact w_X11_readLine_16 fx hS n x0 x1 x2 x2 (14 : Int32) h0  hr hw (lv_sub hl [0, 1, 2] rfl) hok
theorem dX11_readAll_0 : decode cX11_readAll 0 = .ok (.aload_n 0, 1) := by decide +kernel
theorem dX11_readAll_1 : decode cX11_readAll 1 = .ok (.invokevirtual 252, 3) := by decide +kernel
theorem dX11_readAll_4 : decode cX11_readAll 4 = .ok (.aload_n 0, 1) := by decide +kernel
theorem dX11_readAll_5 : decode cX11_readAll 5 = .ok (.iconst 0, 1) := by decide +kernel
theorem dX11_readAll_6 : decode cX11_readAll 6 = .ok (.putfield 182, 3) := by decide +kernel
theorem dX11_readAll_9 : decode cX11_readAll 9 = .ok (.aload_n 0, 1) := by decide +kernel
theorem dX11_readAll_10 : decode cX11_readAll 10 = .ok (.invokevirtual 96, 3) := by decide +kernel
theorem dX11_readAll_13 : decode cX11_readAll 13 = .ok (.aload_n 0, 1) := by decide +kernel
theorem dX11_readAll_14 : decode cX11_readAll 14 = .ok (.getfield 83, 3) := by decide +kernel
theorem dX11_readAll_17 : decode cX11_readAll 17 = .ok (.aload_n 0, 1) := by decide +kernel
theorem dX11_readAll_18 : decode cX11_readAll 18 = .ok (.getfield 86, 3) := by decide +kernel
theorem dX11_readAll_21 : decode cX11_readAll 21 = .ok (.if_icmp .ne 5, 3) := by decide +kernel
theorem dX11_readAll_24 : decode cX11_readAll 24 = .ok (.iconst 0, 1) := by decide +kernel
theorem dX11_readAll_25 : decode cX11_readAll 25 = .ok (.ireturn, 1) := by decide +kernel
theorem dX11_readAll_26 : decode cX11_readAll 26 = .ok (.iconst 0, 1) := by decide +kernel
theorem dX11_readAll_27 : decode cX11_readAll 27 = .ok (.istore_n 2, 1) := by decide +kernel
theorem dX11_readAll_28 : decode cX11_readAll 28 = .ok (.aload_n 0, 1) := by decide +kernel
theorem dX11_readAll_29 : decode cX11_readAll 29 = .ok (.iload_n 1, 1) := by decide +kernel
theorem dX11_readAll_30 : decode cX11_readAll 30 = .ok (.iload_n 2, 1) := by decide +kernel
theorem dX11_readAll_31 : decode cX11_readAll 31 = .ok (.invokevirtual 255, 3) := by decide +kernel
theorem dX11_readAll_34 : decode cX11_readAll 34 = .ok (.ifCond .ne 5, 3) := by decide +kernel
theorem dX11_readAll_37 : decode cX11_readAll 37 = .ok (.iconst (-1), 1) := by decide +kernel
theorem dX11_readAll_38 : decode cX11_readAll 38 = .ok (.ireturn, 1) := by decide +kernel
theorem dX11_readAll_39 : decode cX11_readAll 39 = .ok (.aload_n 0, 1) := by decide +kernel
theorem dX11_readAll_40 : decode cX11_readAll 40 = .ok (.invokevirtual 96, 3) := by decide +kernel
theorem dX11_readAll_43 : decode cX11_readAll 43 = .ok (.aload_n 0, 1) := by decide +kernel
theorem dX11_readAll_44 : decode cX11_readAll 44 = .ok (.getfield 83, 3) := by decide +kernel
theorem dX11_readAll_47 : decode cX11_readAll 47 = .ok (.aload_n 0, 1) := by decide +kernel
theorem dX11_readAll_48 : decode cX11_readAll 48 = .ok (.getfield 86, 3) := by decide +kernel
theorem dX11_readAll_51 : decode cX11_readAll 51 = .ok (.if_icmp .ne 7, 3) := by decide +kernel
theorem dX11_readAll_54 : decode cX11_readAll 54 = .ok (.iload_n 2, 1) := by decide +kernel
theorem dX11_readAll_55 : decode cX11_readAll 55 = .ok (.iconst 1, 1) := by decide +kernel
theorem dX11_readAll_56 : decode cX11_readAll 56 = .ok (.iadd, 1) := by decide +kernel
theorem dX11_readAll_57 : decode cX11_readAll 57 = .ok (.ireturn, 1) := by decide +kernel
theorem dX11_readAll_58 : decode cX11_readAll 58 = .ok (.aload_n 0, 1) := by decide +kernel
theorem dX11_readAll_59 : decode cX11_readAll 59 = .ok (.bipush 59, 2) := by decide +kernel
theorem dX11_readAll_61 : decode cX11_readAll 61 = .ok (.bipush 59, 2) := by decide +kernel
theorem dX11_readAll_63 : decode cX11_readAll 63 = .ok (.invokevirtual 89, 3) := by decide +kernel
theorem dX11_readAll_66 : decode cX11_readAll 66 = .ok (.ifCond .ne 5, 3) := by decide +kernel
theorem dX11_readAll_69 : decode cX11_readAll 69 = .ok (.iconst (-1), 1) := by decide +kernel
theorem dX11_readAll_70 : decode cX11_readAll 70 = .ok (.ireturn, 1) := by decide +kernel
theorem dX11_readAll_71 : decode cX11_readAll 71 = .ok (.aload_n 0, 1) := by decide +kernel
theorem dX11_readAll_72 : decode cX11_readAll 72 = .ok (.dup, 1) := by decide +kernel
theorem dX11_readAll_73 : decode cX11_readAll 73 = .ok (.getfield 83, 3) := by decide +kernel
theorem dX11_readAll_76 : decode cX11_readAll 76 = .ok (.iconst 1, 1) := by decide +kernel
theorem dX11_readAll_77 : decode cX11_readAll 77 = .ok (.iadd, 1) := by decide +kernel
theorem dX11_readAll_78 : decode cX11_readAll 78 = .ok (.putfield 83, 3) := by decide +kernel
theorem dX11_readAll_81 : decode cX11_readAll 81 = .ok (.iinc 2 1, 3) := by decide +kernel
theorem dX11_readAll_84 : decode cX11_readAll 84 = .ok (.goto (-56), 3) := by decide +kernel
theorem lv_RX11_252 : gLv RX11 252 RX11 yX11_uses cX11_uses 1 none 0 := gLv_of (wA_t (wt7 (List.mem_of_getElem? (i := 66) (by decide +kernel))) (by decide +kernel)) (wA_t (wt7 (List.mem_of_getElem? (i := 68) (by decide +kernel))) (by decide +kernel)) (wA_of (List.mem_append_left _ (List.mem_map.mpr ⟨(⟨"YearRopeModel", "uses", "()V"⟩, 20), wp3 (List.mem_of_getElem? (i := 11) (by decide +kernel)), rfl⟩)) (by decide +kernel)) (wA_t (wt1 (List.mem_of_getElem? (i := 12) (by decide +kernel))) (by decide +kernel)) (wA_t (wt7 (List.mem_of_getElem? (i := 69) (by decide +kernel))) (by decide +kernel)) ⟨rfl, by decide +kernel, by decide +kernel, by decide +kernel⟩
theorem lv_RX11_255 : gLv RX11 255 RX11 yX11_readLine cX11_readLine 3 (some .boolean) 2 := gLv_of (wA_t (wt7 (List.mem_of_getElem? (i := 78) (by decide +kernel))) (by decide +kernel)) (wA_t (wt7 (List.mem_of_getElem? (i := 80) (by decide +kernel))) (by decide +kernel)) (wA_of (List.mem_append_left _ (List.mem_map.mpr ⟨(⟨"YearRopeModel", "readLine", "(ZI)Z"⟩, 20), wp3 (List.mem_of_getElem? (i := 14) (by decide +kernel)), rfl⟩)) (by decide +kernel)) (wA_t (wt1 (List.mem_of_getElem? (i := 12) (by decide +kernel))) (by decide +kernel)) (wA_t (wt7 (List.mem_of_getElem? (i := 81) (by decide +kernel))) (by decide +kernel)) ⟨rfl, by decide +kernel, by decide +kernel, by decide +kernel⟩
def rm_X11_readAll : Room := { frames := 53, cells := 0, slots := 0, locals := 1665 }
def b_X11_readAll_28 (τ : gτ) (n : Nat) (x0 : Nat) (x1 : Int32) (x2 : Int32) (G : gG) : Option ((Int32 × gG) ⊕ ((gG) ⊕ (Int32 × gG) ⊕ (gG))) :=
  gBind2 (f_X11_readLine τ n x0 x1 x2 G) fun v4 G5 =>
  if v4 = 0 then (some (.inr (.inl G5)))
  else ((f_X11_blanks τ n x0 G5).bind fun G6 =>
  if (gi G6 11 10 x0) = (gi G6 11 11 x0) then (some (.inr (.inr (.inl (x2, G6)))))
  else ((f_X11_isAt τ x0 (59 : Int32) (59 : Int32) G6).bind fun v7 =>
  if v7 = 0 then (some (.inr (.inr (.inr G6))))
  else (gLet (gsi G6 11 10 x0 ((gi G6 11 10 x0) + (1 : Int32))) fun G8 =>
  gLet (x2 + 1) fun v9 =>
  some (.inl (v9, G8)))))
def l_X11_readAll_28 (τ : gτ) (n : Nat) (x0 : Nat) (x1 : Int32) (x2 : Int32) (G : gG) : Option ((gG) ⊕ (Int32 × gG) ⊕ (gG)) :=
  gIter (fun (q : Int32 × gG) => b_X11_readAll_28 τ n x0 x1 q.1 q.2) n (x2, G)
def f_X11_readAll (τ : gτ) (n : Nat) (x0 : Nat) (x1 : Int32) (G : gG) : Option (Int32 × gG) :=
  (f_X11_uses x0 G).bind fun G1 =>
  gLet (gsi G1 11 16 x0 (0 : Int32)) fun G2 =>
  (f_X11_blanks τ n x0 G2).bind fun G3 =>
  if (gi G3 11 10 x0) = (gi G3 11 11 x0) then (some (0, G3))
  else ((l_X11_readAll_28 τ n x0 x1 (0 : Int32) G3).bind fun q => match q with
  | .inl q => gLet q fun G10 => (some ((-1), G10))
  | .inr q => (match q with
  | .inl q => gLet q.1 fun z11 => gLet q.2 fun G12 => (some (z11 + (1 : Int32), G12))
  | .inr q => (gLet q fun G13 => some ((-1), G13))))
set_option maxHeartbeats 4000000 in
set_option maxRecDepth 100000 in
theorem w_b_X11_readAll_28 {X : gX} {τ : gτ} {p : Program} {l : Launch} {e : Env} {s : State} {m : MethodId} {args : Array Value} {below : List Frame} {meth : Method} {c : Code} (fx : gFx X p s m args meth c cX11_readAll 3 RX11) (hS : gS0 l X) (n : Nat) (x0 : Nat) (x1 : Int32) (x2 : Int32) (h0 : gK τ x0 11) {Q : State → Prop} {K : ((Int32 × gG) ⊕ ((gG) ⊕ (Int32 × gG) ⊕ (gG))) → Prop} {G : gG} {H : Heap} {locs : List Loc} {ls : Array Slot} (hw : gHw X τ G H locs) (hl : lv_has ls 3 [(0, .ref x0), (1, .int x1), (2, .int x2)]) (hok : gOk (b_X11_readAll_28 τ n x0 x1 x2 G) K) (hc : ∀ (y2 : Int32) (G : gG) (H : Heap) (locs : List Loc) (ls : Array Slot), gHw X τ G H locs → lv_has ls 3 [(0, .ref x0), (1, .int x1), (2, .int y2)] → K (.inl (y2, G)) → W p l e rm_X11_readAll s m args below meth c H locs 0 0 Q (F0 m 28 ls [])) (hx0 : ∀ (G : gG) (H : Heap) (locs : List Loc) (ls : Array Slot), gHw X τ G H locs → lv_has ls 3 [] → K (.inr (.inl G)) → W p l e rm_X11_readAll s m args below meth c H locs 0 0 Q (F0 m 37 ls [])) (hx1 : ∀ (y2 : Int32) (G : gG) (H : Heap) (locs : List Loc) (ls : Array Slot), gHw X τ G H locs → lv_has ls 3 [(2, .int y2)] → K (.inr (.inr (.inl (y2, G)))) → W p l e rm_X11_readAll s m args below meth c H locs 0 0 Q (F0 m 54 ls [])) (hx2 : ∀ (G : gG) (H : Heap) (locs : List Loc) (ls : Array Slot), gHw X τ G H locs → lv_has ls 3 [] → K (.inr (.inr (.inr G))) → W p l e rm_X11_readAll s m args below meth c H locs 0 0 Q (F0 m 69 ls [])) : W p l e rm_X11_readAll s m args below meth c H locs 0 0 Q (F0 m 28 ls []) := by
  unfold b_X11_readAll_28 at hok
  refine lv_aload_n fx.1 fx.2.1 dX11_readAll_28 rfl (lv_at hl 0 rfl) ?_
  refine lv_iload_n fx.1 fx.2.1 dX11_readAll_29 rfl (lv_at hl 1 rfl) ?_
  refine lv_iload_n fx.1 fx.2.1 dX11_readAll_30 rfl (lv_at hl 2 rfl) ?_
  obtain ⟨v4, G5, hf, hok⟩ := gOk_bind2 hok
  refine g_callV0 (κ := 11) fx hw (c_X11_readLine l X τ n hS x0 x1 x2 G h0 hf) lv_RX11_255 ⟨rfl, rfl⟩ rfl rfl h0 rfl hl.1 rfl ⟨Nat.le_of_ble_eq_true rfl, Nat.le_of_ble_eq_true rfl⟩ (Nat.le_of_ble_eq_true rfl) ⟨Nat.le_of_ble_eq_true rfl, Nat.le_of_ble_eq_true rfl⟩ dX11_readAll_31 (fun H locs hw => ?_)
  refine g_if_ne (tgt := 39) fx dX11_readAll_34 (by decide) hok (fun hok => ?_) (fun hok => ?_)
  · exact hx0  G5 _ _ _  hw (lv_sub hl [] rfl) (gOk_some hok)
  · refine lv_aload_n fx.1 fx.2.1 dX11_readAll_39 rfl (lv_at hl 0 rfl) ?_
    obtain ⟨G6, hf, hok⟩ := gOk_bind hok
    refine g_callV0 (κ := 11) fx hw (c_X11_blanks l X τ n x0 G5 h0 hf) lv_RX11_96 ⟨rfl, rfl⟩ rfl rfl h0 rfl hl.1 rfl ⟨Nat.le_of_ble_eq_true rfl, Nat.le_of_ble_eq_true rfl⟩ (Nat.le_of_ble_eq_true rfl) ⟨Nat.le_of_ble_eq_true rfl, Nat.le_of_ble_eq_true rfl⟩ dX11_readAll_40 (fun H locs hw => ?_)
    refine lv_aload_n fx.1 fx.2.1 dX11_readAll_43 rfl (lv_at hl 0 rfl) ?_
    refine g_geti fx hw h0 lf_RX11_83 rfl dX11_readAll_44 ?_
    refine lv_aload_n fx.1 fx.2.1 dX11_readAll_47 rfl (lv_at hl 0 rfl) ?_
    refine g_geti fx hw h0 lf_RX11_86 rfl dX11_readAll_48 ?_
    refine g_icmp_ne (tgt := 58) fx dX11_readAll_51 (by decide) hok (fun hok => ?_) (fun hok => ?_)
    · exact hx1 x2 G6 _ _ _  hw (lv_sub hl [2] rfl) (gOk_some hok)
    · refine lv_aload_n fx.1 fx.2.1 dX11_readAll_58 rfl (lv_at hl 0 rfl) ?_
      refine lv_bipush (v := 59) fx.1 fx.2.1 dX11_readAll_59 (by decide) ?_
      refine lv_bipush (v := 59) fx.1 fx.2.1 dX11_readAll_61 (by decide) ?_
      obtain ⟨v7, hf, hok⟩ := gOk_bind hok
      refine g_callV0 (κ := 11) fx hw (c_X11_isAt l X τ x0 (59 : Int32) (59 : Int32) G6 h0 hf) lv_RX11_89 ⟨rfl, rfl⟩ rfl rfl h0 rfl hl.1 rfl ⟨Nat.le_of_ble_eq_true rfl, Nat.le_of_ble_eq_true rfl⟩ (Nat.le_of_ble_eq_true rfl) ⟨Nat.le_of_ble_eq_true rfl, Nat.le_of_ble_eq_true rfl⟩ dX11_readAll_63 (fun H locs hw => ?_)
      refine g_if_ne (tgt := 71) fx dX11_readAll_66 (by decide) hok (fun hok => ?_) (fun hok => ?_)
      · exact hx2  G6 _ _ _  hw (lv_sub hl [] rfl) (gOk_some hok)
      · refine lv_aload_n fx.1 fx.2.1 dX11_readAll_71 rfl (lv_at hl 0 rfl) ?_
        refine lv_dup fx.1 fx.2.1 dX11_readAll_72 rfl ?_
        refine g_geti fx hw h0 lf_RX11_83 rfl dX11_readAll_73 ?_
        refine lv_iconst (v := 1) fx.1 fx.2.1 dX11_readAll_76 (by decide) ?_
        refine lv_iadd fx.1 fx.2.1 dX11_readAll_77 ?_
        refine g_puti fx hw h0 lp_RX11_83 rfl rfl dX11_readAll_78 hok (fun G8 H locs hw hok => ?_)
        obtain ⟨v9, e_v9, hok⟩ := gOk_let hok
        refine lv_iinc (v := v9) (lv' := [(2, .int v9), (0, .ref x0), (1, .int x1)]) fx.1 fx.2.1 dX11_readAll_81 hl (k := 2) rfl (by rw [e_v9]; rfl) (by decide) rfl (fun ls hl => ?_)
        refine lv_goto (tgt := 28) fx.1 fx.2.1 dX11_readAll_84 (by decide) ?_
        exact hc v9 G8 _ _ _  hw (lv_sub hl [1, 2, 0] rfl) (gOk_some hok)
theorem w_l_X11_readAll_28 {X : gX} {τ : gτ} {p : Program} {l : Launch} {e : Env} {s : State} {m : MethodId} {args : Array Value} {below : List Frame} {meth : Method} {c : Code} (fx : gFx X p s m args meth c cX11_readAll 3 RX11) (hS : gS0 l X) (n : Nat) (x0 : Nat) (x1 : Int32) (h0 : gK τ x0 11) {Q : State → Prop} {K : ((gG) ⊕ (Int32 × gG) ⊕ (gG)) → Prop} (hx0 : ∀ (G : gG) (H : Heap) (locs : List Loc) (ls : Array Slot), gHw X τ G H locs → lv_has ls 3 [] → K (.inl G) → W p l e rm_X11_readAll s m args below meth c H locs 0 0 Q (F0 m 37 ls [])) (hx1 : ∀ (y2 : Int32) (G : gG) (H : Heap) (locs : List Loc) (ls : Array Slot), gHw X τ G H locs → lv_has ls 3 [(2, .int y2)] → K (.inr (.inl (y2, G))) → W p l e rm_X11_readAll s m args below meth c H locs 0 0 Q (F0 m 54 ls [])) (hx2 : ∀ (G : gG) (H : Heap) (locs : List Loc) (ls : Array Slot), gHw X τ G H locs → lv_has ls 3 [] → K (.inr (.inr G)) → W p l e rm_X11_readAll s m args below meth c H locs 0 0 Q (F0 m 69 ls [])) : ∀ (k : Nat) (x2 : Int32) (G : gG) (H : Heap) (locs : List Loc) (ls : Array Slot), gHw X τ G H locs → lv_has ls 3 [(0, .ref x0), (1, .int x1), (2, .int x2)] → gOk (gIter (fun (q : Int32 × gG) => b_X11_readAll_28 τ n x0 x1 q.1 q.2) k (x2, G)) K → W p l e rm_X11_readAll s m args below meth c H locs 0 0 Q (F0 m 28 ls []) := by
  intro k
  induction k with
  | zero =>
    intro x2 G H locs ls hw hl hok
    exact gOk_iter0 hok
  | succ k hc =>
    intro x2 G H locs ls hw hl hok
    exact w_b_X11_readAll_28 fx hS n x0 x1 x2 h0 hw hl (gOk_iter hok) hc hx0 hx1 hx2
set_option maxHeartbeats 4000000 in
set_option maxRecDepth 100000 in
theorem c_X11_readAll (l : Launch) (X : gX) (τ : gτ) (n : Nat) (hS : gS0 l X) (x0 : Nat) (x1 : Int32) (G : gG) (h0 : gK τ x0 11) {r : Int32} {G' : gG} (h : f_X11_readAll τ n x0 x1 G = some (r, G')) : gM l X τ yX11_readAll cX11_readAll 3 (some .int) rm_X11_readAll [.ref x0, .int x1] G (some (.int r)) G' := by
  refine g_body (by decide +kernel) (Nat.le_of_ble_eq_true rfl) ?_
  intro p e s m args below meth c ls fx hr hw hl
  have fx : gFx X p s m args meth c cX11_readAll 3 RX11 := fx
  have hl : lv_has ls 3 [(0, .ref x0), (1, .int x1)] := hl
  have hok : gOk (f_X11_readAll τ n x0 x1 G) (fun q => q = (r, G')) := ⟨_, h, rfl⟩
  unfold f_X11_readAll at hok
  show W p l e rm_X11_readAll s m args below meth c s.heap [] 0 0 (MQ below (gQ X τ (some (.int r)) G') args s 0 0 (gFree X)) _
  refine lv_aload_n fx.1 fx.2.1 dX11_readAll_0 rfl (lv_at hl 0 rfl) ?_
  obtain ⟨G1, hf, hok⟩ := gOk_bind hok
  refine g_callV0 (κ := 11) fx hw (c_X11_uses l X τ x0 G h0 hf) lv_RX11_252 ⟨rfl, rfl⟩ rfl rfl h0 rfl hl.1 rfl ⟨Nat.le_of_ble_eq_true rfl, Nat.le_of_ble_eq_true rfl⟩ (Nat.le_of_ble_eq_true rfl) ⟨Nat.le_of_ble_eq_true rfl, Nat.le_of_ble_eq_true rfl⟩ dX11_readAll_1 (fun H locs hw => ?_)
  refine lv_aload_n fx.1 fx.2.1 dX11_readAll_4 rfl (lv_at hl 0 rfl) ?_
  refine lv_iconst (v := 0) fx.1 fx.2.1 dX11_readAll_5 (by decide) ?_
  refine g_puti fx hw h0 lp_RX11_182 rfl rfl dX11_readAll_6 hok (fun G2 H locs hw hok => ?_)
  refine lv_aload_n fx.1 fx.2.1 dX11_readAll_9 rfl (lv_at hl 0 rfl) ?_
  obtain ⟨G3, hf, hok⟩ := gOk_bind hok
  refine g_callV0 (κ := 11) fx hw (c_X11_blanks l X τ n x0 G2 h0 hf) lv_RX11_96 ⟨rfl, rfl⟩ rfl rfl h0 rfl hl.1 rfl ⟨Nat.le_of_ble_eq_true rfl, Nat.le_of_ble_eq_true rfl⟩ (Nat.le_of_ble_eq_true rfl) ⟨Nat.le_of_ble_eq_true rfl, Nat.le_of_ble_eq_true rfl⟩ dX11_readAll_10 (fun H locs hw => ?_)
  refine lv_aload_n fx.1 fx.2.1 dX11_readAll_13 rfl (lv_at hl 0 rfl) ?_
  refine g_geti fx hw h0 lf_RX11_83 rfl dX11_readAll_14 ?_
  refine lv_aload_n fx.1 fx.2.1 dX11_readAll_17 rfl (lv_at hl 0 rfl) ?_
  refine g_geti fx hw h0 lf_RX11_86 rfl dX11_readAll_18 ?_
  refine g_icmp_ne (tgt := 26) fx dX11_readAll_21 (by decide) hok (fun hok => ?_) (fun hok => ?_)
  · refine lv_iconst (v := 0) fx.1 fx.2.1 dX11_readAll_24 (by decide) ?_
    cases gOk_some hok
    exact g_iret fx hw hr dX11_readAll_25
  · refine lv_iconst (v := 0) fx.1 fx.2.1 dX11_readAll_26 (by decide) ?_
    refine lv_istore_n (lv' := [(2, .int (0 : Int32)), (0, .ref x0), (1, .int x1)]) fx.1 fx.2.1 dX11_readAll_27 rfl hl (by decide) rfl (fun ls hl => ?_)
    refine w_l_X11_readAll_28 fx hS n x0 x1 h0 ?_ ?_ ?_ n (0 : Int32) G3 _ _ _  hw (lv_sub hl [1, 2, 0] rfl) (gOk_bindK hok)
    · intro G10 H locs ls hw hl hok
      have hok : gOk (ρ := Int32 × gG) (some ((-1), G10)) _ := hok
      refine lv_iconst (v := (-1)) fx.1 fx.2.1 dX11_readAll_37 (by decide) ?_
      cases gOk_some hok
      exact g_iret fx hw hr dX11_readAll_38
    · intro z11 G12 H locs ls hw hl hok
      have hok : gOk (ρ := Int32 × gG) (some (z11 + (1 : Int32), G12)) _ := hok
      refine lv_iload_n fx.1 fx.2.1 dX11_readAll_54 rfl (lv_at hl 0 rfl) ?_
      refine lv_iconst (v := 1) fx.1 fx.2.1 dX11_readAll_55 (by decide) ?_
      refine lv_iadd fx.1 fx.2.1 dX11_readAll_56 ?_
      cases gOk_some hok
      exact g_iret fx hw hr dX11_readAll_57
    · intro G13 H locs ls hw hl hok
      have hok : gOk (ρ := Int32 × gG) (some ((-1), G13)) _ := hok
      refine lv_iconst (v := (-1)) fx.1 fx.2.1 dX11_readAll_69 (by decide) ?_
      cases gOk_some hok
      exact g_iret fx hw hr dX11_readAll_70
theorem dX11_walk_0 : decode cX11_walk 0 = .ok (.iconst 0, 1) := by decide +kernel
theorem dX11_walk_1 : decode cX11_walk 1 = .ok (.istore_n 1, 1) := by decide +kernel
theorem dX11_walk_2 : decode cX11_walk 2 = .ok (.iload_n 1, 1) := by decide +kernel
theorem dX11_walk_3 : decode cX11_walk 3 = .ok (.sipush 1316, 3) := by decide +kernel
theorem dX11_walk_6 : decode cX11_walk 6 = .ok (.if_icmp .ge 21, 3) := by decide +kernel
theorem dX11_walk_9 : decode cX11_walk 9 = .ok (.aload_n 0, 1) := by decide +kernel
theorem dX11_walk_10 : decode cX11_walk 10 = .ok (.getfield 20, 3) := by decide +kernel
theorem dX11_walk_13 : decode cX11_walk 13 = .ok (.iload_n 1, 1) := by decide +kernel
theorem dX11_walk_14 : decode cX11_walk 14 = .ok (.aload_n 0, 1) := by decide +kernel
theorem dX11_walk_15 : decode cX11_walk 15 = .ok (.getfield 13, 3) := by decide +kernel
theorem dX11_walk_18 : decode cX11_walk 18 = .ok (.iload_n 1, 1) := by decide +kernel
theorem dX11_walk_19 : decode cX11_walk 19 = .ok (.iaload, 1) := by decide +kernel
theorem dX11_walk_20 : decode cX11_walk 20 = .ok (.iastore, 1) := by decide +kernel
theorem dX11_walk_21 : decode cX11_walk 21 = .ok (.iinc 1 1, 3) := by decide +kernel
theorem dX11_walk_24 : decode cX11_walk 24 = .ok (.goto (-22), 3) := by decide +kernel
theorem dX11_walk_27 : decode cX11_walk 27 = .ok (.aload_n 0, 1) := by decide +kernel
theorem dX11_walk_28 : decode cX11_walk 28 = .ok (.iconst 1, 1) := by decide +kernel
theorem dX11_walk_29 : decode cX11_walk 29 = .ok (.invokevirtual 259, 3) := by decide +kernel
theorem dX11_walk_32 : decode cX11_walk 32 = .ok (.istore_n 1, 1) := by decide +kernel
theorem dX11_walk_33 : decode cX11_walk 33 = .ok (.aload_n 0, 1) := by decide +kernel
theorem dX11_walk_34 : decode cX11_walk 34 = .ok (.iload_n 1, 1) := by decide +kernel
theorem dX11_walk_35 : decode cX11_walk 35 = .ok (.ifCond .ge 10, 3) := by decide +kernel
theorem dX11_walk_38 : decode cX11_walk 38 = .ok (.aload_n 0, 1) := by decide +kernel
theorem dX11_walk_39 : decode cX11_walk 39 = .ok (.getfield 93, 3) := by decide +kernel
theorem dX11_walk_42 : decode cX11_walk 42 = .ok (.goto 4, 3) := by decide +kernel
theorem dX11_walk_45 : decode cX11_walk 45 = .ok (.iconst (-1), 1) := by decide +kernel
theorem dX11_walk_46 : decode cX11_walk 46 = .ok (.putfield 33, 3) := by decide +kernel
theorem dX11_walk_49 : decode cX11_walk 49 = .ok (.aload_n 0, 1) := by decide +kernel
theorem dX11_walk_50 : decode cX11_walk 50 = .ok (.iload_n 1, 1) := by decide +kernel
theorem dX11_walk_51 : decode cX11_walk 51 = .ok (.ifCond .ge 7, 3) := by decide +kernel
theorem dX11_walk_54 : decode cX11_walk 54 = .ok (.iconst 1, 1) := by decide +kernel
theorem dX11_walk_55 : decode cX11_walk 55 = .ok (.goto 4, 3) := by decide +kernel
theorem dX11_walk_58 : decode cX11_walk 58 = .ok (.iconst 0, 1) := by decide +kernel
theorem dX11_walk_59 : decode cX11_walk 59 = .ok (.iconst 1, 1) := by decide +kernel
theorem dX11_walk_60 : decode cX11_walk 60 = .ok (.invokevirtual 263, 3) := by decide +kernel
theorem dX11_walk_63 : decode cX11_walk 63 = .ok (.ifCond .ne 27, 3) := by decide +kernel
theorem dX11_walk_66 : decode cX11_walk 66 = .ok (.aload_n 0, 1) := by decide +kernel
theorem dX11_walk_67 : decode cX11_walk 67 = .ok (.aload_n 0, 1) := by decide +kernel
theorem dX11_walk_68 : decode cX11_walk 68 = .ok (.getfield 13, 3) := by decide +kernel
theorem dX11_walk_71 : decode cX11_walk 71 = .ok (.iconst 3, 1) := by decide +kernel
theorem dX11_walk_72 : decode cX11_walk 72 = .ok (.iaload, 1) := by decide +kernel
theorem dX11_walk_73 : decode cX11_walk 73 = .ok (.bipush 12, 2) := by decide +kernel
theorem dX11_walk_75 : decode cX11_walk 75 = .ok (.if_icmp .ne 7, 3) := by decide +kernel
theorem dX11_walk_78 : decode cX11_walk 78 = .ok (.iconst 1, 1) := by decide +kernel
theorem dX11_walk_79 : decode cX11_walk 79 = .ok (.goto 4, 3) := by decide +kernel
theorem dX11_walk_82 : decode cX11_walk 82 = .ok (.iconst 0, 1) := by decide +kernel
theorem dX11_walk_83 : decode cX11_walk 83 = .ok (.iconst 2, 1) := by decide +kernel
theorem dX11_walk_84 : decode cX11_walk 84 = .ok (.invokevirtual 263, 3) := by decide +kernel
theorem dX11_walk_87 : decode cX11_walk 87 = .ok (.ifCond .eq 32, 3) := by decide +kernel
theorem dX11_walk_90 : decode cX11_walk 90 = .ok (.iconst 0, 1) := by decide +kernel
theorem dX11_walk_91 : decode cX11_walk 91 = .ok (.istore_n 2, 1) := by decide +kernel
theorem dX11_walk_92 : decode cX11_walk 92 = .ok (.iload_n 2, 1) := by decide +kernel
theorem dX11_walk_93 : decode cX11_walk 93 = .ok (.sipush 1316, 3) := by decide +kernel
theorem dX11_walk_96 : decode cX11_walk 96 = .ok (.if_icmp .ge 21, 3) := by decide +kernel
theorem dX11_walk_99 : decode cX11_walk 99 = .ok (.aload_n 0, 1) := by decide +kernel
theorem dX11_walk_100 : decode cX11_walk 100 = .ok (.getfield 13, 3) := by decide +kernel
theorem dX11_walk_103 : decode cX11_walk 103 = .ok (.iload_n 2, 1) := by decide +kernel
theorem dX11_walk_104 : decode cX11_walk 104 = .ok (.aload_n 0, 1) := by decide +kernel
theorem dX11_walk_105 : decode cX11_walk 105 = .ok (.getfield 20, 3) := by decide +kernel
theorem dX11_walk_108 : decode cX11_walk 108 = .ok (.iload_n 2, 1) := by decide +kernel
theorem dX11_walk_109 : decode cX11_walk 109 = .ok (.iaload, 1) := by decide +kernel
theorem dX11_walk_110 : decode cX11_walk 110 = .ok (.iastore, 1) := by decide +kernel
theorem dX11_walk_111 : decode cX11_walk 111 = .ok (.iinc 2 1, 3) := by decide +kernel
theorem dX11_walk_114 : decode cX11_walk 114 = .ok (.goto (-22), 3) := by decide +kernel
theorem dX11_walk_117 : decode cX11_walk 117 = .ok (.iconst 0, 1) := by decide +kernel
theorem dX11_walk_118 : decode cX11_walk 118 = .ok (.ireturn, 1) := by decide +kernel
theorem dX11_walk_119 : decode cX11_walk 119 = .ok (.aload_n 0, 1) := by decide +kernel
theorem dX11_walk_120 : decode cX11_walk 120 = .ok (.getfield 13, 3) := by decide +kernel
theorem dX11_walk_123 : decode cX11_walk 123 = .ok (.iconst 3, 1) := by decide +kernel
theorem dX11_walk_124 : decode cX11_walk 124 = .ok (.dup2, 1) := by decide +kernel
theorem dX11_walk_125 : decode cX11_walk 125 = .ok (.iaload, 1) := by decide +kernel
theorem dX11_walk_126 : decode cX11_walk 126 = .ok (.iconst 1, 1) := by decide +kernel
theorem dX11_walk_127 : decode cX11_walk 127 = .ok (.iadd, 1) := by decide +kernel
theorem dX11_walk_128 : decode cX11_walk 128 = .ok (.iastore, 1) := by decide +kernel
theorem dX11_walk_129 : decode cX11_walk 129 = .ok (.aload_n 0, 1) := by decide +kernel
theorem dX11_walk_130 : decode cX11_walk 130 = .ok (.iconst 0, 1) := by decide +kernel
theorem dX11_walk_131 : decode cX11_walk 131 = .ok (.putfield 52, 3) := by decide +kernel
theorem dX11_walk_134 : decode cX11_walk 134 = .ok (.aload_n 0, 1) := by decide +kernel
theorem dX11_walk_135 : decode cX11_walk 135 = .ok (.getfield 13, 3) := by decide +kernel
theorem dX11_walk_138 : decode cX11_walk 138 = .ok (.iconst 3, 1) := by decide +kernel
theorem dX11_walk_139 : decode cX11_walk 139 = .ok (.iaload, 1) := by decide +kernel
theorem dX11_walk_140 : decode cX11_walk 140 = .ok (.ireturn, 1) := by decide +kernel
theorem lf_RX11_20 : gLf RX11 20 11 3 := ⟨(RX11, TX11, 20), rfl, by decide, wA_t (wt6 (List.mem_of_getElem? (i := 216) (by decide +kernel))) (by decide +kernel), rfl⟩
theorem lv_RX11_259 : gLv RX11 259 RX11 yX11_readAll cX11_readAll 3 (some .int) 1 := gLv_of (wA_t (wt7 (List.mem_of_getElem? (i := 62) (by decide +kernel))) (by decide +kernel)) (wA_t (wt7 (List.mem_of_getElem? (i := 64) (by decide +kernel))) (by decide +kernel)) (wA_of (List.mem_append_left _ (List.mem_map.mpr ⟨(⟨"YearRopeModel", "readAll", "(Z)I"⟩, 20), wp3 (List.mem_of_getElem? (i := 10) (by decide +kernel)), rfl⟩)) (by decide +kernel)) (wA_t (wt1 (List.mem_of_getElem? (i := 12) (by decide +kernel))) (by decide +kernel)) (wA_t (wt7 (List.mem_of_getElem? (i := 65) (by decide +kernel))) (by decide +kernel)) ⟨rfl, by decide +kernel, by decide +kernel, by decide +kernel⟩
theorem lp_RX11_33 : gLp RX11 33 11 14 := ⟨(RX11, TX11, 20), rfl, by decide, wA_t (wt6 (List.mem_of_getElem? (i := 227) (by decide +kernel))) (by decide +kernel), rfl, rfl⟩
theorem lv_RX11_263 : gLv RX11 263 RX11 yX11_throwsIf cX11_throwsIf 3 (some .boolean) 2 := gLv_of (wA_t (wt7 (List.mem_of_getElem? (i := 230) (by decide +kernel))) (by decide +kernel)) (wA_t (wt7 (List.mem_of_getElem? (i := 232) (by decide +kernel))) (by decide +kernel)) (wA_of (List.mem_append_left _ (List.mem_map.mpr ⟨(⟨"YearRopeModel", "throwsIf", "(ZI)Z"⟩, 20), wp5 (List.mem_of_getElem? (i := 11) (by decide +kernel)), rfl⟩)) (by decide +kernel)) (wA_t (wt1 (List.mem_of_getElem? (i := 12) (by decide +kernel))) (by decide +kernel)) (wA_t (wt7 (List.mem_of_getElem? (i := 233) (by decide +kernel))) (by decide +kernel)) ⟨rfl, by decide +kernel, by decide +kernel, by decide +kernel⟩
def rm_X11_walk : Room := { frames := 54, cells := 0, slots := 0, locals := 1687 }
def b_X11_walk_2 (τ : gτ) (n : Nat) (x0 : Nat) (x1 : Int32) (G : gG) : Option ((Int32 × gG) ⊕ ((gG))) :=
  if (1316 : Int32) ≤ x1 then (some (.inr G))
  else ((gr G 11 3 x0).bind fun a1 =>
  (gr G 11 1 x0).bind fun a2 =>
  gchk (gIn x1 (gn τ a2)) <|
  gchk (gIn x1 (gn τ a1)) <| gLet (gse G a1 (Int32.toNatClampNeg x1) (ge G a2 (Int32.toNatClampNeg x1))) fun G3 =>
  gLet (x1 + 1) fun v4 =>
  some (.inl (v4, G3)))
def l_X11_walk_2 (τ : gτ) (n : Nat) (x0 : Nat) (x1 : Int32) (G : gG) : Option ((gG)) :=
  gIter (fun (q : Int32 × gG) => b_X11_walk_2 τ n x0 q.1 q.2) n (x1, G)
def b_X11_walk_92 (τ : gτ) (n : Nat) (x0 : Nat) (x2 : Int32) (G : gG) : Option ((Int32 × gG) ⊕ ((gG))) :=
  if (1316 : Int32) ≤ x2 then (some (.inr G))
  else ((gr G 11 1 x0).bind fun a18 =>
  (gr G 11 3 x0).bind fun a19 =>
  gchk (gIn x2 (gn τ a19)) <|
  gchk (gIn x2 (gn τ a18)) <| gLet (gse G a18 (Int32.toNatClampNeg x2) (ge G a19 (Int32.toNatClampNeg x2))) fun G20 =>
  gLet (x2 + 1) fun v21 =>
  some (.inl (v21, G20)))
def l_X11_walk_92 (τ : gτ) (n : Nat) (x0 : Nat) (x2 : Int32) (G : gG) : Option ((gG)) :=
  gIter (fun (q : Int32 × gG) => b_X11_walk_92 τ n x0 q.1 q.2) n (x2, G)
def k_X11_walk_90 (τ : gτ) (n : Nat) (x0 : Nat)  (G : gG) : Option (Int32 × gG) :=
  (l_X11_walk_92 τ n x0 (0 : Int32) G).bind fun q => gLet q fun G22 => 
  some (0, G22)
def k_X11_walk_83 (τ : gτ) (n : Nat) (x0 : Nat) (s0 : Nat) (s1 : Int32) (G : gG) : Option (Int32 × gG) :=
  gBind2 (f_X11_throwsIf s0 s1 (2 : Int32) G) fun v12 G13 =>
  if v12 = 0 then ((gr G13 11 1 x0).bind fun a14 =>
  gchk (gIn (3 : Int32) (gn τ a14)) <|
  gchk (gIn (3 : Int32) (gn τ a14)) <| gLet (gse G13 a14 (Int32.toNatClampNeg (3 : Int32)) ((ge G13 a14 (Int32.toNatClampNeg (3 : Int32))) + (1 : Int32))) fun G15 =>
  gLet (gsi G15 11 7 x0 (0 : Int32)) fun G16 =>
  (gr G16 11 1 x0).bind fun a17 =>
  gchk (gIn (3 : Int32) (gn τ a17)) <|
  some (ge G16 a17 (Int32.toNatClampNeg (3 : Int32)), G16))
  else (k_X11_walk_90 τ n x0  G13)
def k_X11_walk_59 (τ : gτ) (n : Nat) (x0 : Nat) (s0 : Nat) (s1 : Int32) (G : gG) : Option (Int32 × gG) :=
  gBind2 (f_X11_throwsIf s0 s1 (1 : Int32) G) fun v9 G10 =>
  if v9 = 0 then ((gr G10 11 1 x0).bind fun a11 =>
  gchk (gIn (3 : Int32) (gn τ a11)) <|
  if (ge G10 a11 (Int32.toNatClampNeg (3 : Int32))) = (12 : Int32) then (k_X11_walk_83 τ n x0 x0 (1 : Int32) G10)
  else (k_X11_walk_83 τ n x0 x0 (0 : Int32) G10))
  else (k_X11_walk_90 τ n x0  G10)
def k_X11_walk_46 (τ : gτ) (n : Nat) (x0 : Nat) (x1 : Int32) (s0 : Nat) (s1 : Int32) (G : gG) : Option (Int32 × gG) :=
  gLet (gsi G 11 14 s0 s1) fun G8 =>
  if 0 ≤ x1 then (k_X11_walk_59 τ n x0 x0 (0 : Int32) G8)
  else (k_X11_walk_59 τ n x0 x0 (1 : Int32) G8)
def k_X11_walk_27 (τ : gτ) (n : Nat) (x0 : Nat)  (G : gG) : Option (Int32 × gG) :=
  gBind2 (f_X11_readAll τ n x0 (1 : Int32) G) fun v6 G7 =>
  if 0 ≤ v6 then (k_X11_walk_46 τ n x0 v6 x0 (-1 : Int32) G7)
  else (k_X11_walk_46 τ n x0 v6 x0 (gi G7 11 12 x0) G7)
def f_X11_walk (τ : gτ) (n : Nat) (x0 : Nat) (G : gG) : Option (Int32 × gG) :=
  (l_X11_walk_2 τ n x0 (0 : Int32) G).bind fun q => gLet q fun G5 => 
  k_X11_walk_27 τ n x0  G5
set_option maxHeartbeats 4000000 in
set_option maxRecDepth 100000 in
theorem w_b_X11_walk_2 {X : gX} {τ : gτ} {p : Program} {l : Launch} {e : Env} {s : State} {m : MethodId} {args : Array Value} {below : List Frame} {meth : Method} {c : Code} (fx : gFx X p s m args meth c cX11_walk 3 RX11) (hS : gS0 l X) (n : Nat) (x0 : Nat) (x1 : Int32) (h0 : gK τ x0 11) {Q : State → Prop} {K : ((Int32 × gG) ⊕ ((gG))) → Prop} {G : gG} {H : Heap} {locs : List Loc} {ls : Array Slot} (hw : gHw X τ G H locs) (hl : lv_has ls 3 [(0, .ref x0), (1, .int x1)]) (hok : gOk (b_X11_walk_2 τ n x0 x1 G) K) (hc : ∀ (y1 : Int32) (G : gG) (H : Heap) (locs : List Loc) (ls : Array Slot), gHw X τ G H locs → lv_has ls 3 [(0, .ref x0), (1, .int y1)] → K (.inl (y1, G)) → W p l e rm_X11_walk s m args below meth c H locs 0 0 Q (F0 m 2 ls [])) (hx0 : ∀ (G : gG) (H : Heap) (locs : List Loc) (ls : Array Slot), gHw X τ G H locs → lv_has ls 3 [(0, .ref x0)] → K (.inr G) → W p l e rm_X11_walk s m args below meth c H locs 0 0 Q (F0 m 27 ls [])) : W p l e rm_X11_walk s m args below meth c H locs 0 0 Q (F0 m 2 ls []) := by
  unfold b_X11_walk_2 at hok
  refine lv_iload_n fx.1 fx.2.1 dX11_walk_2 rfl (lv_at hl 1 rfl) ?_
  refine lv_sipush (v := 1316) fx.1 fx.2.1 dX11_walk_3 (by decide) ?_
  refine g_icmp_ge (tgt := 27) fx dX11_walk_6 (by decide) hok (fun hok => ?_) (fun hok => ?_)
  · exact hx0  G _ _ _  hw (lv_sub hl [0] rfl) (gOk_some hok)
  · refine lv_aload_n fx.1 fx.2.1 dX11_walk_9 rfl (lv_at hl 0 rfl) ?_
    refine g_getr fx hw h0 lf_RX11_20 rfl dX11_walk_10 hok (fun a1 h_a1 hok => ?_)
    refine lv_iload_n fx.1 fx.2.1 dX11_walk_13 rfl (lv_at hl 1 rfl) ?_
    refine lv_aload_n fx.1 fx.2.1 dX11_walk_14 rfl (lv_at hl 0 rfl) ?_
    refine g_getr fx hw h0 lf_RX11_13 rfl dX11_walk_15 hok (fun a2 h_a2 hok => ?_)
    refine lv_iload_n fx.1 fx.2.1 dX11_walk_18 rfl (lv_at hl 1 rfl) ?_
    refine g_iald fx hw h_a2 dX11_walk_19 hok (fun hok => ?_)
    refine g_iast fx hw h_a1 dX11_walk_20 hok (fun G3 H locs hw hok => ?_)
    obtain ⟨v4, e_v4, hok⟩ := gOk_let hok
    refine lv_iinc (v := v4) (lv' := [(1, .int v4), (0, .ref x0)]) fx.1 fx.2.1 dX11_walk_21 hl (k := 1) rfl (by rw [e_v4]; rfl) (by decide) rfl (fun ls hl => ?_)
    refine lv_goto (tgt := 2) fx.1 fx.2.1 dX11_walk_24 (by decide) ?_
    exact hc v4 G3 _ _ _  hw (lv_sub hl [1, 0] rfl) (gOk_some hok)
theorem w_l_X11_walk_2 {X : gX} {τ : gτ} {p : Program} {l : Launch} {e : Env} {s : State} {m : MethodId} {args : Array Value} {below : List Frame} {meth : Method} {c : Code} (fx : gFx X p s m args meth c cX11_walk 3 RX11) (hS : gS0 l X) (n : Nat) (x0 : Nat) (h0 : gK τ x0 11) {Q : State → Prop} {K : ((gG)) → Prop} (hx0 : ∀ (G : gG) (H : Heap) (locs : List Loc) (ls : Array Slot), gHw X τ G H locs → lv_has ls 3 [(0, .ref x0)] → K G → W p l e rm_X11_walk s m args below meth c H locs 0 0 Q (F0 m 27 ls [])) : ∀ (k : Nat) (x1 : Int32) (G : gG) (H : Heap) (locs : List Loc) (ls : Array Slot), gHw X τ G H locs → lv_has ls 3 [(0, .ref x0), (1, .int x1)] → gOk (gIter (fun (q : Int32 × gG) => b_X11_walk_2 τ n x0 q.1 q.2) k (x1, G)) K → W p l e rm_X11_walk s m args below meth c H locs 0 0 Q (F0 m 2 ls []) := by
  intro k
  induction k with
  | zero =>
    intro x1 G H locs ls hw hl hok
    exact gOk_iter0 hok
  | succ k hc =>
    intro x1 G H locs ls hw hl hok
    exact w_b_X11_walk_2 fx hS n x0 x1 h0 hw hl (gOk_iter hok) hc hx0
set_option maxHeartbeats 4000000 in
set_option maxRecDepth 100000 in
theorem w_b_X11_walk_92 {X : gX} {τ : gτ} {p : Program} {l : Launch} {e : Env} {s : State} {m : MethodId} {args : Array Value} {below : List Frame} {meth : Method} {c : Code} (fx : gFx X p s m args meth c cX11_walk 3 RX11) (hS : gS0 l X) (n : Nat) (x0 : Nat) (x2 : Int32) (h0 : gK τ x0 11) {Q : State → Prop} {K : ((Int32 × gG) ⊕ ((gG))) → Prop} {G : gG} {H : Heap} {locs : List Loc} {ls : Array Slot} (hw : gHw X τ G H locs) (hl : lv_has ls 3 [(0, .ref x0), (2, .int x2)]) (hok : gOk (b_X11_walk_92 τ n x0 x2 G) K) (hc : ∀ (y2 : Int32) (G : gG) (H : Heap) (locs : List Loc) (ls : Array Slot), gHw X τ G H locs → lv_has ls 3 [(0, .ref x0), (2, .int y2)] → K (.inl (y2, G)) → W p l e rm_X11_walk s m args below meth c H locs 0 0 Q (F0 m 92 ls [])) (hx0 : ∀ (G : gG) (H : Heap) (locs : List Loc) (ls : Array Slot), gHw X τ G H locs → lv_has ls 3 [] → K (.inr G) → W p l e rm_X11_walk s m args below meth c H locs 0 0 Q (F0 m 117 ls [])) : W p l e rm_X11_walk s m args below meth c H locs 0 0 Q (F0 m 92 ls []) := by
  unfold b_X11_walk_92 at hok
  refine lv_iload_n fx.1 fx.2.1 dX11_walk_92 rfl (lv_at hl 1 rfl) ?_
  refine lv_sipush (v := 1316) fx.1 fx.2.1 dX11_walk_93 (by decide) ?_
  refine g_icmp_ge (tgt := 117) fx dX11_walk_96 (by decide) hok (fun hok => ?_) (fun hok => ?_)
  · exact hx0  G _ _ _  hw (lv_sub hl [] rfl) (gOk_some hok)
  · refine lv_aload_n fx.1 fx.2.1 dX11_walk_99 rfl (lv_at hl 0 rfl) ?_
    refine g_getr fx hw h0 lf_RX11_13 rfl dX11_walk_100 hok (fun a18 h_a18 hok => ?_)
    refine lv_iload_n fx.1 fx.2.1 dX11_walk_103 rfl (lv_at hl 1 rfl) ?_
    refine lv_aload_n fx.1 fx.2.1 dX11_walk_104 rfl (lv_at hl 0 rfl) ?_
    refine g_getr fx hw h0 lf_RX11_20 rfl dX11_walk_105 hok (fun a19 h_a19 hok => ?_)
    refine lv_iload_n fx.1 fx.2.1 dX11_walk_108 rfl (lv_at hl 1 rfl) ?_
    refine g_iald fx hw h_a19 dX11_walk_109 hok (fun hok => ?_)
    refine g_iast fx hw h_a18 dX11_walk_110 hok (fun G20 H locs hw hok => ?_)
    obtain ⟨v21, e_v21, hok⟩ := gOk_let hok
    refine lv_iinc (v := v21) (lv' := [(2, .int v21), (0, .ref x0)]) fx.1 fx.2.1 dX11_walk_111 hl (k := 1) rfl (by rw [e_v21]; rfl) (by decide) rfl (fun ls hl => ?_)
    refine lv_goto (tgt := 92) fx.1 fx.2.1 dX11_walk_114 (by decide) ?_
    exact hc v21 G20 _ _ _  hw (lv_sub hl [1, 0] rfl) (gOk_some hok)
theorem w_l_X11_walk_92 {X : gX} {τ : gτ} {p : Program} {l : Launch} {e : Env} {s : State} {m : MethodId} {args : Array Value} {below : List Frame} {meth : Method} {c : Code} (fx : gFx X p s m args meth c cX11_walk 3 RX11) (hS : gS0 l X) (n : Nat) (x0 : Nat) (h0 : gK τ x0 11) {Q : State → Prop} {K : ((gG)) → Prop} (hx0 : ∀ (G : gG) (H : Heap) (locs : List Loc) (ls : Array Slot), gHw X τ G H locs → lv_has ls 3 [] → K G → W p l e rm_X11_walk s m args below meth c H locs 0 0 Q (F0 m 117 ls [])) : ∀ (k : Nat) (x2 : Int32) (G : gG) (H : Heap) (locs : List Loc) (ls : Array Slot), gHw X τ G H locs → lv_has ls 3 [(0, .ref x0), (2, .int x2)] → gOk (gIter (fun (q : Int32 × gG) => b_X11_walk_92 τ n x0 q.1 q.2) k (x2, G)) K → W p l e rm_X11_walk s m args below meth c H locs 0 0 Q (F0 m 92 ls []) := by
  intro k
  induction k with
  | zero =>
    intro x2 G H locs ls hw hl hok
    exact gOk_iter0 hok
  | succ k hc =>
    intro x2 G H locs ls hw hl hok
    exact w_b_X11_walk_92 fx hS n x0 x2 h0 hw hl (gOk_iter hok) hc hx0
set_option maxHeartbeats 4000000 in
set_option maxRecDepth 100000 in
theorem w_X11_walk_90 {X : gX} {τ : gτ} {p : Program} {l : Launch} {e : Env} {s : State} {m : MethodId} {args : Array Value} {below : List Frame} {meth : Method} {c : Code} (fx : gFx X p s m args meth c cX11_walk 3 RX11) (hS : gS0 l X) (n : Nat) (x0 : Nat)  (h0 : gK τ x0 11)  (hr : meth.sig.returnType = (some .int)) {r : Int32} {G' : gG} {G : gG} {H : Heap} {locs : List Loc} {ls : Array Slot} (hw : gHw X τ G H locs) (hl : lv_has ls 3 [(0, .ref x0)]) (hok : gOk (k_X11_walk_90 τ n x0  G) (fun q => q = (r, G')))  : W p l e rm_X11_walk s m args below meth c H locs 0 0 (MQ below (gQ X τ (some (.int r)) G') args s 0 0 (gFree X)) (F0 m 90 ls []) := by
  unfold k_X11_walk_90 at hok
  refine lv_iconst (v := 0) fx.1 fx.2.1 dX11_walk_90 (by decide) ?_
  refine lv_istore_n (lv' := [(2, .int (0 : Int32)), (0, .ref x0)]) fx.1 fx.2.1 dX11_walk_91 rfl hl (by decide) rfl (fun ls hl => ?_)
  refine w_l_X11_walk_92 fx hS n x0 h0 ?_ n (0 : Int32) G _ _ _  hw (lv_sub hl [1, 0] rfl) (gOk_bindK hok)
  intro G22 H locs ls hw hl hok
  have hok : gOk (ρ := Int32 × gG) (some (0, G22)) _ := hok
  refine lv_iconst (v := 0) fx.1 fx.2.1 dX11_walk_117 (by decide) ?_
  cases gOk_some hok
  exact g_iret fx hw hr dX11_walk_118
set_option maxHeartbeats 4000000 in
set_option maxRecDepth 100000 in
theorem w_X11_walk_83 {X : gX} {τ : gτ} {p : Program} {l : Launch} {e : Env} {s : State} {m : MethodId} {args : Array Value} {below : List Frame} {meth : Method} {c : Code} (fx : gFx X p s m args meth c cX11_walk 3 RX11) (hS : gS0 l X) (n : Nat) (x0 : Nat) (s0 : Nat) (s1 : Int32) (h0 : gK τ x0 11) (hs0 : gK τ s0 11) (hr : meth.sig.returnType = (some .int)) {r : Int32} {G' : gG} {G : gG} {H : Heap} {locs : List Loc} {ls : Array Slot} (hw : gHw X τ G H locs) (hl : lv_has ls 3 [(0, .ref x0)]) (hok : gOk (k_X11_walk_83 τ n x0 s0 s1 G) (fun q => q = (r, G')))  : W p l e rm_X11_walk s m args below meth c H locs 0 0 (MQ below (gQ X τ (some (.int r)) G') args s 0 0 (gFree X)) (F0 m 83 ls [.int s1, .ref s0]) := by
  unfold k_X11_walk_83 at hok
  refine lv_iconst (v := 2) fx.1 fx.2.1 dX11_walk_83 (by decide) ?_
  obtain ⟨v12, G13, hf, hok⟩ := gOk_bind2 hok
  refine g_callV0 (κ := 11) fx hw (c_X11_throwsIf l X τ s0 s1 (2 : Int32) G hs0 hf) lv_RX11_263 ⟨rfl, rfl⟩ rfl rfl hs0 rfl hl.1 rfl ⟨Nat.le_of_ble_eq_true rfl, Nat.le_of_ble_eq_true rfl⟩ (Nat.le_of_ble_eq_true rfl) ⟨Nat.le_of_ble_eq_true rfl, Nat.le_of_ble_eq_true rfl⟩ dX11_walk_84 (fun H locs hw => ?_)
  refine g_if_eq (tgt := 119) fx dX11_walk_87 (by decide) hok (fun hok => ?_) (fun hok => ?_)
  · refine lv_aload_n fx.1 fx.2.1 dX11_walk_119 rfl (lv_at hl 0 rfl) ?_
    refine g_getr fx hw h0 lf_RX11_13 rfl dX11_walk_120 hok (fun a14 h_a14 hok => ?_)
    refine lv_iconst (v := 3) fx.1 fx.2.1 dX11_walk_123 (by decide) ?_
    refine lv_dup2_11 fx.1 fx.2.1 dX11_walk_124 rfl rfl ?_
    refine g_iald fx hw h_a14 dX11_walk_125 hok (fun hok => ?_)
    refine lv_iconst (v := 1) fx.1 fx.2.1 dX11_walk_126 (by decide) ?_
    refine lv_iadd fx.1 fx.2.1 dX11_walk_127 ?_
    refine g_iast fx hw h_a14 dX11_walk_128 hok (fun G15 H locs hw hok => ?_)
    refine lv_aload_n fx.1 fx.2.1 dX11_walk_129 rfl (lv_at hl 0 rfl) ?_
    refine lv_iconst (v := 0) fx.1 fx.2.1 dX11_walk_130 (by decide) ?_
    refine g_puti fx hw h0 lp_RX11_52 rfl rfl dX11_walk_131 hok (fun G16 H locs hw hok => ?_)
    refine lv_aload_n fx.1 fx.2.1 dX11_walk_134 rfl (lv_at hl 0 rfl) ?_
    refine g_getr fx hw h0 lf_RX11_13 rfl dX11_walk_135 hok (fun a17 h_a17 hok => ?_)
    refine lv_iconst (v := 3) fx.1 fx.2.1 dX11_walk_138 (by decide) ?_
    refine g_iald fx hw h_a17 dX11_walk_139 hok (fun hok => ?_)
    cases gOk_some hok
    exact g_iret fx hw hr dX11_walk_140
  · exact w_X11_walk_90 fx hS n x0  h0  hr hw (lv_sub hl [0] rfl) hok
set_option maxHeartbeats 4000000 in
set_option maxRecDepth 100000 in
theorem w_X11_walk_59 {X : gX} {τ : gτ} {p : Program} {l : Launch} {e : Env} {s : State} {m : MethodId} {args : Array Value} {below : List Frame} {meth : Method} {c : Code} (fx : gFx X p s m args meth c cX11_walk 3 RX11) (hS : gS0 l X) (n : Nat) (x0 : Nat) (s0 : Nat) (s1 : Int32) (h0 : gK τ x0 11) (hs0 : gK τ s0 11) (hr : meth.sig.returnType = (some .int)) {r : Int32} {G' : gG} {G : gG} {H : Heap} {locs : List Loc} {ls : Array Slot} (hw : gHw X τ G H locs) (hl : lv_has ls 3 [(0, .ref x0)]) (hok : gOk (k_X11_walk_59 τ n x0 s0 s1 G) (fun q => q = (r, G')))  : W p l e rm_X11_walk s m args below meth c H locs 0 0 (MQ below (gQ X τ (some (.int r)) G') args s 0 0 (gFree X)) (F0 m 59 ls [.int s1, .ref s0]) := by
  unfold k_X11_walk_59 at hok
  refine lv_iconst (v := 1) fx.1 fx.2.1 dX11_walk_59 (by decide) ?_
  obtain ⟨v9, G10, hf, hok⟩ := gOk_bind2 hok
  refine g_callV0 (κ := 11) fx hw (c_X11_throwsIf l X τ s0 s1 (1 : Int32) G hs0 hf) lv_RX11_263 ⟨rfl, rfl⟩ rfl rfl hs0 rfl hl.1 rfl ⟨Nat.le_of_ble_eq_true rfl, Nat.le_of_ble_eq_true rfl⟩ (Nat.le_of_ble_eq_true rfl) ⟨Nat.le_of_ble_eq_true rfl, Nat.le_of_ble_eq_true rfl⟩ dX11_walk_60 (fun H locs hw => ?_)
  refine g_if_ne (tgt := 90) fx dX11_walk_63 (by decide) hok (fun hok => ?_) (fun hok => ?_)
  · refine lv_aload_n fx.1 fx.2.1 dX11_walk_66 rfl (lv_at hl 0 rfl) ?_
    refine lv_aload_n fx.1 fx.2.1 dX11_walk_67 rfl (lv_at hl 0 rfl) ?_
    refine g_getr fx hw h0 lf_RX11_13 rfl dX11_walk_68 hok (fun a11 h_a11 hok => ?_)
    refine lv_iconst (v := 3) fx.1 fx.2.1 dX11_walk_71 (by decide) ?_
    refine g_iald fx hw h_a11 dX11_walk_72 hok (fun hok => ?_)
    refine lv_bipush (v := 12) fx.1 fx.2.1 dX11_walk_73 (by decide) ?_
    refine g_icmp_ne (tgt := 82) fx dX11_walk_75 (by decide) hok (fun hok => ?_) (fun hok => ?_)
    · refine lv_iconst (v := 1) fx.1 fx.2.1 dX11_walk_78 (by decide) ?_
      refine lv_goto (tgt := 83) fx.1 fx.2.1 dX11_walk_79 (by decide) ?_
      exact w_X11_walk_83 fx hS n x0 x0 (1 : Int32) h0 h0 hr hw (lv_sub hl [0] rfl) hok
    · refine lv_iconst (v := 0) fx.1 fx.2.1 dX11_walk_82 (by decide) ?_
      exact w_X11_walk_83 fx hS n x0 x0 (0 : Int32) h0 h0 hr hw (lv_sub hl [0] rfl) hok
  · exact w_X11_walk_90 fx hS n x0  h0  hr hw (lv_sub hl [0] rfl) hok
set_option maxHeartbeats 4000000 in
set_option maxRecDepth 100000 in
theorem w_X11_walk_46 {X : gX} {τ : gτ} {p : Program} {l : Launch} {e : Env} {s : State} {m : MethodId} {args : Array Value} {below : List Frame} {meth : Method} {c : Code} (fx : gFx X p s m args meth c cX11_walk 3 RX11) (hS : gS0 l X) (n : Nat) (x0 : Nat) (x1 : Int32) (s0 : Nat) (s1 : Int32) (h0 : gK τ x0 11) (hs0 : gK τ s0 11) (hr : meth.sig.returnType = (some .int)) {r : Int32} {G' : gG} {G : gG} {H : Heap} {locs : List Loc} {ls : Array Slot} (hw : gHw X τ G H locs) (hl : lv_has ls 3 [(0, .ref x0), (1, .int x1)]) (hok : gOk (k_X11_walk_46 τ n x0 x1 s0 s1 G) (fun q => q = (r, G')))  : W p l e rm_X11_walk s m args below meth c H locs 0 0 (MQ below (gQ X τ (some (.int r)) G') args s 0 0 (gFree X)) (F0 m 46 ls [.int s1, .ref s0]) := by
  unfold k_X11_walk_46 at hok
  refine g_puti fx hw hs0 lp_RX11_33 rfl rfl dX11_walk_46 hok (fun G8 H locs hw hok => ?_)
  refine lv_aload_n fx.1 fx.2.1 dX11_walk_49 rfl (lv_at hl 0 rfl) ?_
  refine lv_iload_n fx.1 fx.2.1 dX11_walk_50 rfl (lv_at hl 1 rfl) ?_
  refine g_if_ge (tgt := 58) fx dX11_walk_51 (by decide) hok (fun hok => ?_) (fun hok => ?_)
  · refine lv_iconst (v := 0) fx.1 fx.2.1 dX11_walk_58 (by decide) ?_
    exact w_X11_walk_59 fx hS n x0 x0 (0 : Int32) h0 h0 hr hw (lv_sub hl [0] rfl) hok
  · refine lv_iconst (v := 1) fx.1 fx.2.1 dX11_walk_54 (by decide) ?_
    refine lv_goto (tgt := 59) fx.1 fx.2.1 dX11_walk_55 (by decide) ?_
    exact w_X11_walk_59 fx hS n x0 x0 (1 : Int32) h0 h0 hr hw (lv_sub hl [0] rfl) hok
set_option maxHeartbeats 4000000 in
set_option maxRecDepth 100000 in
theorem w_X11_walk_27 {X : gX} {τ : gτ} {p : Program} {l : Launch} {e : Env} {s : State} {m : MethodId} {args : Array Value} {below : List Frame} {meth : Method} {c : Code} (fx : gFx X p s m args meth c cX11_walk 3 RX11) (hS : gS0 l X) (n : Nat) (x0 : Nat)  (h0 : gK τ x0 11)  (hr : meth.sig.returnType = (some .int)) {r : Int32} {G' : gG} {G : gG} {H : Heap} {locs : List Loc} {ls : Array Slot} (hw : gHw X τ G H locs) (hl : lv_has ls 3 [(0, .ref x0)]) (hok : gOk (k_X11_walk_27 τ n x0  G) (fun q => q = (r, G')))  : W p l e rm_X11_walk s m args below meth c H locs 0 0 (MQ below (gQ X τ (some (.int r)) G') args s 0 0 (gFree X)) (F0 m 27 ls []) := by
  unfold k_X11_walk_27 at hok
  refine lv_aload_n fx.1 fx.2.1 dX11_walk_27 rfl (lv_at hl 0 rfl) ?_
  refine lv_iconst (v := 1) fx.1 fx.2.1 dX11_walk_28 (by decide) ?_
  obtain ⟨v6, G7, hf, hok⟩ := gOk_bind2 hok
  refine g_callV0 (κ := 11) fx hw (c_X11_readAll l X τ n hS x0 (1 : Int32) G h0 hf) lv_RX11_259 ⟨rfl, rfl⟩ rfl rfl h0 rfl hl.1 rfl ⟨Nat.le_of_ble_eq_true rfl, Nat.le_of_ble_eq_true rfl⟩ (Nat.le_of_ble_eq_true rfl) ⟨Nat.le_of_ble_eq_true rfl, Nat.le_of_ble_eq_true rfl⟩ dX11_walk_29 (fun H locs hw => ?_)
  refine lv_istore_n (lv' := [(1, .int v6), (0, .ref x0)]) fx.1 fx.2.1 dX11_walk_32 rfl hl (by decide) rfl (fun ls hl => ?_)
  refine lv_aload_n fx.1 fx.2.1 dX11_walk_33 rfl (lv_at hl 1 rfl) ?_
  refine lv_iload_n fx.1 fx.2.1 dX11_walk_34 rfl (lv_at hl 0 rfl) ?_
  refine g_if_ge (tgt := 45) fx dX11_walk_35 (by decide) hok (fun hok => ?_) (fun hok => ?_)
  · refine lv_iconst (v := (-1)) fx.1 fx.2.1 dX11_walk_45 (by decide) ?_
    exact w_X11_walk_46 fx hS n x0 v6 x0 (-1 : Int32) h0 h0 hr hw (lv_sub hl [1, 0] rfl) hok
  · refine lv_aload_n fx.1 fx.2.1 dX11_walk_38 rfl (lv_at hl 1 rfl) ?_
    refine g_geti fx hw h0 lf_RX11_93 rfl dX11_walk_39 ?_
    refine lv_goto (tgt := 46) fx.1 fx.2.1 dX11_walk_42 (by decide) ?_
    exact w_X11_walk_46 fx hS n x0 v6 x0 (gi G7 11 12 x0) h0 h0 hr hw (lv_sub hl [1, 0] rfl) hok
set_option maxHeartbeats 4000000 in
set_option maxRecDepth 100000 in
theorem c_X11_walk (l : Launch) (X : gX) (τ : gτ) (n : Nat) (hS : gS0 l X) (x0 : Nat) (G : gG) (h0 : gK τ x0 11) {r : Int32} {G' : gG} (h : f_X11_walk τ n x0 G = some (r, G')) : gM l X τ yX11_walk cX11_walk 3 (some .int) rm_X11_walk [.ref x0] G (some (.int r)) G' := by
  refine g_body (by decide +kernel) (Nat.le_of_ble_eq_true rfl) ?_
  intro p e s m args below meth c ls fx hr hw hl
  have fx : gFx X p s m args meth c cX11_walk 3 RX11 := fx
  have hl : lv_has ls 3 [(0, .ref x0)] := hl
  have hok : gOk (f_X11_walk τ n x0 G) (fun q => q = (r, G')) := ⟨_, h, rfl⟩
  unfold f_X11_walk at hok
  show W p l e rm_X11_walk s m args below meth c s.heap [] 0 0 (MQ below (gQ X τ (some (.int r)) G') args s 0 0 (gFree X)) _
  refine lv_iconst (v := 0) fx.1 fx.2.1 dX11_walk_0 (by decide) ?_
  refine lv_istore_n (lv' := [(1, .int (0 : Int32)), (0, .ref x0)]) fx.1 fx.2.1 dX11_walk_1 rfl hl (by decide) rfl (fun ls hl => ?_)
  refine w_l_X11_walk_2 fx hS n x0 h0 ?_ n (0 : Int32) G _ _ _  hw (lv_sub hl [1, 0] rfl) (gOk_bindK hok)
  intro G5 H locs ls hw hl hok
  have hok : gOk (ρ := Int32 × gG) (k_X11_walk_27 τ n x0  G5) _ := hok
  exact w_X11_walk_27 fx hS n x0  h0  hr hw (lv_sub hl [0] rfl) hok
theorem dX11_law_0 : decode cX11_law 0 = .ok (.aload_n 0, 1) := by decide +kernel
theorem dX11_law_1 : decode cX11_law 1 = .ok (.iconst 0, 1) := by decide +kernel
theorem dX11_law_2 : decode cX11_law 2 = .ok (.invokevirtual 259, 3) := by decide +kernel
theorem dX11_law_5 : decode cX11_law 5 = .ok (.istore_n 1, 1) := by decide +kernel
theorem dX11_law_6 : decode cX11_law 6 = .ok (.aload_n 0, 1) := by decide +kernel
theorem dX11_law_7 : decode cX11_law 7 = .ok (.iload_n 1, 1) := by decide +kernel
theorem dX11_law_8 : decode cX11_law 8 = .ok (.ifCond .ge 10, 3) := by decide +kernel
theorem dX11_law_11 : decode cX11_law 11 = .ok (.aload_n 0, 1) := by decide +kernel
theorem dX11_law_12 : decode cX11_law 12 = .ok (.getfield 93, 3) := by decide +kernel
theorem dX11_law_15 : decode cX11_law 15 = .ok (.goto 4, 3) := by decide +kernel
theorem dX11_law_18 : decode cX11_law 18 = .ok (.iconst (-1), 1) := by decide +kernel
theorem dX11_law_19 : decode cX11_law 19 = .ok (.putfield 33, 3) := by decide +kernel
theorem dX11_law_22 : decode cX11_law 22 = .ok (.aload_n 0, 1) := by decide +kernel
theorem dX11_law_23 : decode cX11_law 23 = .ok (.iload_n 1, 1) := by decide +kernel
theorem dX11_law_24 : decode cX11_law 24 = .ok (.ifCond .ge 7, 3) := by decide +kernel
theorem dX11_law_27 : decode cX11_law 27 = .ok (.iconst 1, 1) := by decide +kernel
theorem dX11_law_28 : decode cX11_law 28 = .ok (.goto 4, 3) := by decide +kernel
theorem dX11_law_31 : decode cX11_law 31 = .ok (.iconst 0, 1) := by decide +kernel
theorem dX11_law_32 : decode cX11_law 32 = .ok (.iconst 1, 1) := by decide +kernel
theorem dX11_law_33 : decode cX11_law 33 = .ok (.invokevirtual 263, 3) := by decide +kernel
theorem dX11_law_36 : decode cX11_law 36 = .ok (.ifCond .eq 5, 3) := by decide +kernel
theorem dX11_law_39 : decode cX11_law 39 = .ok (.iconst 0, 1) := by decide +kernel
theorem dX11_law_40 : decode cX11_law 40 = .ok (.ireturn, 1) := by decide +kernel
theorem dX11_law_41 : decode cX11_law 41 = .ok (.aload_n 0, 1) := by decide +kernel
theorem dX11_law_42 : decode cX11_law 42 = .ok (.getfield 13, 3) := by decide +kernel
theorem dX11_law_45 : decode cX11_law 45 = .ok (.sipush 1316, 3) := by decide +kernel
theorem dX11_law_48 : decode cX11_law 48 = .ok (.iload_n 1, 1) := by decide +kernel
theorem dX11_law_49 : decode cX11_law 49 = .ok (.iastore, 1) := by decide +kernel
theorem dX11_law_50 : decode cX11_law 50 = .ok (.iconst 0, 1) := by decide +kernel
theorem dX11_law_51 : decode cX11_law 51 = .ok (.istore_n 2, 1) := by decide +kernel
theorem dX11_law_52 : decode cX11_law 52 = .ok (.iload_n 2, 1) := by decide +kernel
theorem dX11_law_53 : decode cX11_law 53 = .ok (.sipush 849, 3) := by decide +kernel
theorem dX11_law_56 : decode cX11_law 56 = .ok (.if_icmp .ge 29, 3) := by decide +kernel
theorem dX11_law_59 : decode cX11_law 59 = .ok (.aload_n 0, 1) := by decide +kernel
theorem dX11_law_60 : decode cX11_law 60 = .ok (.getfield 13, 3) := by decide +kernel
theorem dX11_law_63 : decode cX11_law 63 = .ok (.sipush 467, 3) := by decide +kernel
theorem dX11_law_66 : decode cX11_law 66 = .ok (.iload_n 2, 1) := by decide +kernel
theorem dX11_law_67 : decode cX11_law 67 = .ok (.iadd, 1) := by decide +kernel
theorem dX11_law_68 : decode cX11_law 68 = .ok (.aload_n 0, 1) := by decide +kernel
theorem dX11_law_69 : decode cX11_law 69 = .ok (.getfield 13, 3) := by decide +kernel
theorem dX11_law_72 : decode cX11_law 72 = .ok (.sipush 1316, 3) := by decide +kernel
theorem dX11_law_75 : decode cX11_law 75 = .ok (.iload_n 2, 1) := by decide +kernel
theorem dX11_law_76 : decode cX11_law 76 = .ok (.iadd, 1) := by decide +kernel
theorem dX11_law_77 : decode cX11_law 77 = .ok (.iaload, 1) := by decide +kernel
theorem dX11_law_78 : decode cX11_law 78 = .ok (.iastore, 1) := by decide +kernel
theorem dX11_law_79 : decode cX11_law 79 = .ok (.iinc 2 1, 3) := by decide +kernel
theorem dX11_law_82 : decode cX11_law 82 = .ok (.goto (-30), 3) := by decide +kernel
theorem dX11_law_85 : decode cX11_law 85 = .ok (.aload_n 0, 1) := by decide +kernel
theorem dX11_law_86 : decode cX11_law 86 = .ok (.getfield 13, 3) := by decide +kernel
theorem dX11_law_89 : decode cX11_law 89 = .ok (.iconst 4, 1) := by decide +kernel
theorem dX11_law_90 : decode cX11_law 90 = .ok (.iconst 1, 1) := by decide +kernel
theorem dX11_law_91 : decode cX11_law 91 = .ok (.iastore, 1) := by decide +kernel
theorem dX11_law_92 : decode cX11_law 92 = .ok (.aload_n 0, 1) := by decide +kernel
theorem dX11_law_93 : decode cX11_law 93 = .ok (.iconst 0, 1) := by decide +kernel
theorem dX11_law_94 : decode cX11_law 94 = .ok (.putfield 52, 3) := by decide +kernel
theorem dX11_law_97 : decode cX11_law 97 = .ok (.iload_n 1, 1) := by decide +kernel
theorem dX11_law_98 : decode cX11_law 98 = .ok (.ireturn, 1) := by decide +kernel
def rm_X11_law : Room := { frames := 54, cells := 0, slots := 0, locals := 1687 }
def b_X11_law_52 (τ : gτ) (n : Nat) (x0 : Nat) (x1 : Int32) (x2 : Int32) (G : gG) : Option ((Int32 × gG) ⊕ ((gG))) :=
  if (849 : Int32) ≤ x2 then (some (.inr G))
  else ((gr G 11 1 x0).bind fun a8 =>
  (gr G 11 1 x0).bind fun a9 =>
  gchk (gIn ((1316 : Int32) + x2) (gn τ a9)) <|
  gchk (gIn ((467 : Int32) + x2) (gn τ a8)) <| gLet (gse G a8 (Int32.toNatClampNeg ((467 : Int32) + x2)) (ge G a9 (Int32.toNatClampNeg ((1316 : Int32) + x2)))) fun G10 =>
  gLet (x2 + 1) fun v11 =>
  some (.inl (v11, G10)))
def l_X11_law_52 (τ : gτ) (n : Nat) (x0 : Nat) (x1 : Int32) (x2 : Int32) (G : gG) : Option ((gG)) :=
  gIter (fun (q : Int32 × gG) => b_X11_law_52 τ n x0 x1 q.1 q.2) n (x2, G)
def k_X11_law_85 (τ : gτ) (n : Nat) (x0 : Nat) (x1 : Int32)  (G : gG) : Option (Int32 × gG) :=
  (gr G 11 1 x0).bind fun a13 =>
  gchk (gIn (4 : Int32) (gn τ a13)) <| gLet (gse G a13 (Int32.toNatClampNeg (4 : Int32)) (1 : Int32)) fun G14 =>
  gLet (gsi G14 11 7 x0 (0 : Int32)) fun G15 =>
  some (x1, G15)
def k_X11_law_32 (τ : gτ) (n : Nat) (x0 : Nat) (x1 : Int32) (s0 : Nat) (s1 : Int32) (G : gG) : Option (Int32 × gG) :=
  gBind2 (f_X11_throwsIf s0 s1 (1 : Int32) G) fun v4 G5 =>
  if v4 = 0 then ((gr G5 11 1 x0).bind fun a6 =>
  gchk (gIn (1316 : Int32) (gn τ a6)) <| gLet (gse G5 a6 (Int32.toNatClampNeg (1316 : Int32)) x1) fun G7 =>
  (l_X11_law_52 τ n x0 x1 (0 : Int32) G7).bind fun q => gLet q fun G12 => 
  k_X11_law_85 τ n x0 x1  G12)
  else (some (0, G5))
def k_X11_law_19 (τ : gτ) (n : Nat) (x0 : Nat) (x1 : Int32) (s0 : Nat) (s1 : Int32) (G : gG) : Option (Int32 × gG) :=
  gLet (gsi G 11 14 s0 s1) fun G3 =>
  if 0 ≤ x1 then (k_X11_law_32 τ n x0 x1 x0 (0 : Int32) G3)
  else (k_X11_law_32 τ n x0 x1 x0 (1 : Int32) G3)
def f_X11_law (τ : gτ) (n : Nat) (x0 : Nat) (G : gG) : Option (Int32 × gG) :=
  gBind2 (f_X11_readAll τ n x0 (0 : Int32) G) fun v1 G2 =>
  if 0 ≤ v1 then (k_X11_law_19 τ n x0 v1 x0 (-1 : Int32) G2)
  else (k_X11_law_19 τ n x0 v1 x0 (gi G2 11 12 x0) G2)
set_option maxHeartbeats 4000000 in
set_option maxRecDepth 100000 in
theorem w_b_X11_law_52 {X : gX} {τ : gτ} {p : Program} {l : Launch} {e : Env} {s : State} {m : MethodId} {args : Array Value} {below : List Frame} {meth : Method} {c : Code} (fx : gFx X p s m args meth c cX11_law 3 RX11) (hS : gS0 l X) (n : Nat) (x0 : Nat) (x1 : Int32) (x2 : Int32) (h0 : gK τ x0 11) {Q : State → Prop} {K : ((Int32 × gG) ⊕ ((gG))) → Prop} {G : gG} {H : Heap} {locs : List Loc} {ls : Array Slot} (hw : gHw X τ G H locs) (hl : lv_has ls 3 [(0, .ref x0), (1, .int x1), (2, .int x2)]) (hok : gOk (b_X11_law_52 τ n x0 x1 x2 G) K) (hc : ∀ (y2 : Int32) (G : gG) (H : Heap) (locs : List Loc) (ls : Array Slot), gHw X τ G H locs → lv_has ls 3 [(0, .ref x0), (1, .int x1), (2, .int y2)] → K (.inl (y2, G)) → W p l e rm_X11_law s m args below meth c H locs 0 0 Q (F0 m 52 ls [])) (hx0 : ∀ (G : gG) (H : Heap) (locs : List Loc) (ls : Array Slot), gHw X τ G H locs → lv_has ls 3 [(0, .ref x0), (1, .int x1)] → K (.inr G) → W p l e rm_X11_law s m args below meth c H locs 0 0 Q (F0 m 85 ls [])) : W p l e rm_X11_law s m args below meth c H locs 0 0 Q (F0 m 52 ls []) := by
  unfold b_X11_law_52 at hok
  refine lv_iload_n fx.1 fx.2.1 dX11_law_52 rfl (lv_at hl 2 rfl) ?_
  refine lv_sipush (v := 849) fx.1 fx.2.1 dX11_law_53 (by decide) ?_
  refine g_icmp_ge (tgt := 85) fx dX11_law_56 (by decide) hok (fun hok => ?_) (fun hok => ?_)
  · exact hx0  G _ _ _  hw (lv_sub hl [0, 1] rfl) (gOk_some hok)
  · refine lv_aload_n fx.1 fx.2.1 dX11_law_59 rfl (lv_at hl 0 rfl) ?_
    refine g_getr fx hw h0 lf_RX11_13 rfl dX11_law_60 hok (fun a8 h_a8 hok => ?_)
    refine lv_sipush (v := 467) fx.1 fx.2.1 dX11_law_63 (by decide) ?_
    refine lv_iload_n fx.1 fx.2.1 dX11_law_66 rfl (lv_at hl 2 rfl) ?_
    refine lv_iadd fx.1 fx.2.1 dX11_law_67 ?_
    refine lv_aload_n fx.1 fx.2.1 dX11_law_68 rfl (lv_at hl 0 rfl) ?_
    refine g_getr fx hw h0 lf_RX11_13 rfl dX11_law_69 hok (fun a9 h_a9 hok => ?_)
    refine lv_sipush (v := 1316) fx.1 fx.2.1 dX11_law_72 (by decide) ?_
    refine lv_iload_n fx.1 fx.2.1 dX11_law_75 rfl (lv_at hl 2 rfl) ?_
    refine lv_iadd fx.1 fx.2.1 dX11_law_76 ?_
    refine g_iald fx hw h_a9 dX11_law_77 hok (fun hok => ?_)
    refine g_iast fx hw h_a8 dX11_law_78 hok (fun G10 H locs hw hok => ?_)
    obtain ⟨v11, e_v11, hok⟩ := gOk_let hok
    refine lv_iinc (v := v11) (lv' := [(2, .int v11), (0, .ref x0), (1, .int x1)]) fx.1 fx.2.1 dX11_law_79 hl (k := 2) rfl (by rw [e_v11]; rfl) (by decide) rfl (fun ls hl => ?_)
    refine lv_goto (tgt := 52) fx.1 fx.2.1 dX11_law_82 (by decide) ?_
    exact hc v11 G10 _ _ _  hw (lv_sub hl [1, 2, 0] rfl) (gOk_some hok)
theorem w_l_X11_law_52 {X : gX} {τ : gτ} {p : Program} {l : Launch} {e : Env} {s : State} {m : MethodId} {args : Array Value} {below : List Frame} {meth : Method} {c : Code} (fx : gFx X p s m args meth c cX11_law 3 RX11) (hS : gS0 l X) (n : Nat) (x0 : Nat) (x1 : Int32) (h0 : gK τ x0 11) {Q : State → Prop} {K : ((gG)) → Prop} (hx0 : ∀ (G : gG) (H : Heap) (locs : List Loc) (ls : Array Slot), gHw X τ G H locs → lv_has ls 3 [(0, .ref x0), (1, .int x1)] → K G → W p l e rm_X11_law s m args below meth c H locs 0 0 Q (F0 m 85 ls [])) : ∀ (k : Nat) (x2 : Int32) (G : gG) (H : Heap) (locs : List Loc) (ls : Array Slot), gHw X τ G H locs → lv_has ls 3 [(0, .ref x0), (1, .int x1), (2, .int x2)] → gOk (gIter (fun (q : Int32 × gG) => b_X11_law_52 τ n x0 x1 q.1 q.2) k (x2, G)) K → W p l e rm_X11_law s m args below meth c H locs 0 0 Q (F0 m 52 ls []) := by
  intro k
  induction k with
  | zero =>
    intro x2 G H locs ls hw hl hok
    exact gOk_iter0 hok
  | succ k hc =>
    intro x2 G H locs ls hw hl hok
    exact w_b_X11_law_52 fx hS n x0 x1 x2 h0 hw hl (gOk_iter hok) hc hx0
set_option maxHeartbeats 4000000 in
set_option maxRecDepth 100000 in
theorem w_X11_law_85 {X : gX} {τ : gτ} {p : Program} {l : Launch} {e : Env} {s : State} {m : MethodId} {args : Array Value} {below : List Frame} {meth : Method} {c : Code} (fx : gFx X p s m args meth c cX11_law 3 RX11) (hS : gS0 l X) (n : Nat) (x0 : Nat) (x1 : Int32)  (h0 : gK τ x0 11)  (hr : meth.sig.returnType = (some .int)) {r : Int32} {G' : gG} {G : gG} {H : Heap} {locs : List Loc} {ls : Array Slot} (hw : gHw X τ G H locs) (hl : lv_has ls 3 [(0, .ref x0), (1, .int x1)]) (hok : gOk (k_X11_law_85 τ n x0 x1  G) (fun q => q = (r, G')))  : W p l e rm_X11_law s m args below meth c H locs 0 0 (MQ below (gQ X τ (some (.int r)) G') args s 0 0 (gFree X)) (F0 m 85 ls []) := by
  unfold k_X11_law_85 at hok
  refine lv_aload_n fx.1 fx.2.1 dX11_law_85 rfl (lv_at hl 0 rfl) ?_
  refine g_getr fx hw h0 lf_RX11_13 rfl dX11_law_86 hok (fun a13 h_a13 hok => ?_)
  refine lv_iconst (v := 4) fx.1 fx.2.1 dX11_law_89 (by decide) ?_
  refine lv_iconst (v := 1) fx.1 fx.2.1 dX11_law_90 (by decide) ?_
  refine g_iast fx hw h_a13 dX11_law_91 hok (fun G14 H locs hw hok => ?_)
  refine lv_aload_n fx.1 fx.2.1 dX11_law_92 rfl (lv_at hl 0 rfl) ?_
  refine lv_iconst (v := 0) fx.1 fx.2.1 dX11_law_93 (by decide) ?_
  refine g_puti fx hw h0 lp_RX11_52 rfl rfl dX11_law_94 hok (fun G15 H locs hw hok => ?_)
  refine lv_iload_n fx.1 fx.2.1 dX11_law_97 rfl (lv_at hl 1 rfl) ?_
  cases gOk_some hok
  exact g_iret fx hw hr dX11_law_98
set_option maxHeartbeats 4000000 in
set_option maxRecDepth 100000 in
theorem w_X11_law_32 {X : gX} {τ : gτ} {p : Program} {l : Launch} {e : Env} {s : State} {m : MethodId} {args : Array Value} {below : List Frame} {meth : Method} {c : Code} (fx : gFx X p s m args meth c cX11_law 3 RX11) (hS : gS0 l X) (n : Nat) (x0 : Nat) (x1 : Int32) (s0 : Nat) (s1 : Int32) (h0 : gK τ x0 11) (hs0 : gK τ s0 11) (hr : meth.sig.returnType = (some .int)) {r : Int32} {G' : gG} {G : gG} {H : Heap} {locs : List Loc} {ls : Array Slot} (hw : gHw X τ G H locs) (hl : lv_has ls 3 [(0, .ref x0), (1, .int x1)]) (hok : gOk (k_X11_law_32 τ n x0 x1 s0 s1 G) (fun q => q = (r, G')))  : W p l e rm_X11_law s m args below meth c H locs 0 0 (MQ below (gQ X τ (some (.int r)) G') args s 0 0 (gFree X)) (F0 m 32 ls [.int s1, .ref s0]) := by
  unfold k_X11_law_32 at hok
  refine lv_iconst (v := 1) fx.1 fx.2.1 dX11_law_32 (by decide) ?_
  obtain ⟨v4, G5, hf, hok⟩ := gOk_bind2 hok
  refine g_callV0 (κ := 11) fx hw (c_X11_throwsIf l X τ s0 s1 (1 : Int32) G hs0 hf) lv_RX11_263 ⟨rfl, rfl⟩ rfl rfl hs0 rfl hl.1 rfl ⟨Nat.le_of_ble_eq_true rfl, Nat.le_of_ble_eq_true rfl⟩ (Nat.le_of_ble_eq_true rfl) ⟨Nat.le_of_ble_eq_true rfl, Nat.le_of_ble_eq_true rfl⟩ dX11_law_33 (fun H locs hw => ?_)
  refine g_if_eq (tgt := 41) fx dX11_law_36 (by decide) hok (fun hok => ?_) (fun hok => ?_)
  · refine lv_aload_n fx.1 fx.2.1 dX11_law_41 rfl (lv_at hl 0 rfl) ?_
    refine g_getr fx hw h0 lf_RX11_13 rfl dX11_law_42 hok (fun a6 h_a6 hok => ?_)
    refine lv_sipush (v := 1316) fx.1 fx.2.1 dX11_law_45 (by decide) ?_
    refine lv_iload_n fx.1 fx.2.1 dX11_law_48 rfl (lv_at hl 1 rfl) ?_
    refine g_iast fx hw h_a6 dX11_law_49 hok (fun G7 H locs hw hok => ?_)
    refine lv_iconst (v := 0) fx.1 fx.2.1 dX11_law_50 (by decide) ?_
    refine lv_istore_n (lv' := [(2, .int (0 : Int32)), (0, .ref x0), (1, .int x1)]) fx.1 fx.2.1 dX11_law_51 rfl hl (by decide) rfl (fun ls hl => ?_)
    refine w_l_X11_law_52 fx hS n x0 x1 h0 ?_ n (0 : Int32) G7 _ _ _  hw (lv_sub hl [1, 2, 0] rfl) (gOk_bindK hok)
    intro G12 H locs ls hw hl hok
    have hok : gOk (ρ := Int32 × gG) (k_X11_law_85 τ n x0 x1  G12) _ := hok
    exact w_X11_law_85 fx hS n x0 x1  h0  hr hw (lv_sub hl [0, 1] rfl) hok
  · refine lv_iconst (v := 0) fx.1 fx.2.1 dX11_law_39 (by decide) ?_
    cases gOk_some hok
    exact g_iret fx hw hr dX11_law_40
set_option maxHeartbeats 4000000 in
set_option maxRecDepth 100000 in
theorem w_X11_law_19 {X : gX} {τ : gτ} {p : Program} {l : Launch} {e : Env} {s : State} {m : MethodId} {args : Array Value} {below : List Frame} {meth : Method} {c : Code} (fx : gFx X p s m args meth c cX11_law 3 RX11) (hS : gS0 l X) (n : Nat) (x0 : Nat) (x1 : Int32) (s0 : Nat) (s1 : Int32) (h0 : gK τ x0 11) (hs0 : gK τ s0 11) (hr : meth.sig.returnType = (some .int)) {r : Int32} {G' : gG} {G : gG} {H : Heap} {locs : List Loc} {ls : Array Slot} (hw : gHw X τ G H locs) (hl : lv_has ls 3 [(0, .ref x0), (1, .int x1)]) (hok : gOk (k_X11_law_19 τ n x0 x1 s0 s1 G) (fun q => q = (r, G')))  : W p l e rm_X11_law s m args below meth c H locs 0 0 (MQ below (gQ X τ (some (.int r)) G') args s 0 0 (gFree X)) (F0 m 19 ls [.int s1, .ref s0]) := by
  unfold k_X11_law_19 at hok
  refine g_puti fx hw hs0 lp_RX11_33 rfl rfl dX11_law_19 hok (fun G3 H locs hw hok => ?_)
  refine lv_aload_n fx.1 fx.2.1 dX11_law_22 rfl (lv_at hl 0 rfl) ?_
  refine lv_iload_n fx.1 fx.2.1 dX11_law_23 rfl (lv_at hl 1 rfl) ?_
  refine g_if_ge (tgt := 31) fx dX11_law_24 (by decide) hok (fun hok => ?_) (fun hok => ?_)
  · refine lv_iconst (v := 0) fx.1 fx.2.1 dX11_law_31 (by decide) ?_
    exact w_X11_law_32 fx hS n x0 x1 x0 (0 : Int32) h0 h0 hr hw (lv_sub hl [0, 1] rfl) hok
  · refine lv_iconst (v := 1) fx.1 fx.2.1 dX11_law_27 (by decide) ?_
    refine lv_goto (tgt := 32) fx.1 fx.2.1 dX11_law_28 (by decide) ?_
    exact w_X11_law_32 fx hS n x0 x1 x0 (1 : Int32) h0 h0 hr hw (lv_sub hl [0, 1] rfl) hok
set_option maxHeartbeats 4000000 in
set_option maxRecDepth 100000 in
theorem c_X11_law (l : Launch) (X : gX) (τ : gτ) (n : Nat) (hS : gS0 l X) (x0 : Nat) (G : gG) (h0 : gK τ x0 11) {r : Int32} {G' : gG} (h : f_X11_law τ n x0 G = some (r, G')) : gM l X τ yX11_law cX11_law 3 (some .int) rm_X11_law [.ref x0] G (some (.int r)) G' := by
  refine g_body (by decide +kernel) (Nat.le_of_ble_eq_true rfl) ?_
  intro p e s m args below meth c ls fx hr hw hl
  have fx : gFx X p s m args meth c cX11_law 3 RX11 := fx
  have hl : lv_has ls 3 [(0, .ref x0)] := hl
  have hok : gOk (f_X11_law τ n x0 G) (fun q => q = (r, G')) := ⟨_, h, rfl⟩
  unfold f_X11_law at hok
  show W p l e rm_X11_law s m args below meth c s.heap [] 0 0 (MQ below (gQ X τ (some (.int r)) G') args s 0 0 (gFree X)) _
  refine lv_aload_n fx.1 fx.2.1 dX11_law_0 rfl (lv_at hl 0 rfl) ?_
  refine lv_iconst (v := 0) fx.1 fx.2.1 dX11_law_1 (by decide) ?_
  obtain ⟨v1, G2, hf, hok⟩ := gOk_bind2 hok
  refine g_callV0 (κ := 11) fx hw (c_X11_readAll l X τ n hS x0 (0 : Int32) G h0 hf) lv_RX11_259 ⟨rfl, rfl⟩ rfl rfl h0 rfl hl.1 rfl ⟨Nat.le_of_ble_eq_true rfl, Nat.le_of_ble_eq_true rfl⟩ (Nat.le_of_ble_eq_true rfl) ⟨Nat.le_of_ble_eq_true rfl, Nat.le_of_ble_eq_true rfl⟩ dX11_law_2 (fun H locs hw => ?_)
  refine lv_istore_n (lv' := [(1, .int v1), (0, .ref x0)]) fx.1 fx.2.1 dX11_law_5 rfl hl (by decide) rfl (fun ls hl => ?_)
  refine lv_aload_n fx.1 fx.2.1 dX11_law_6 rfl (lv_at hl 1 rfl) ?_
  refine lv_iload_n fx.1 fx.2.1 dX11_law_7 rfl (lv_at hl 0 rfl) ?_
  refine g_if_ge (tgt := 18) fx dX11_law_8 (by decide) hok (fun hok => ?_) (fun hok => ?_)
  · refine lv_iconst (v := (-1)) fx.1 fx.2.1 dX11_law_18 (by decide) ?_
    exact w_X11_law_19 fx hS n x0 v1 x0 (-1 : Int32) h0 h0 hr hw (lv_sub hl [1, 0] rfl) hok
  · refine lv_aload_n fx.1 fx.2.1 dX11_law_11 rfl (lv_at hl 1 rfl) ?_
    refine g_geti fx hw h0 lf_RX11_93 rfl dX11_law_12 ?_
    refine lv_goto (tgt := 19) fx.1 fx.2.1 dX11_law_15 (by decide) ?_
    exact w_X11_law_19 fx hS n x0 v1 x0 (gi G2 11 12 x0) h0 h0 hr hw (lv_sub hl [1, 0] rfl) hok
theorem dX11_yarnOf_0 : decode cX11_yarnOf 0 = .ok (.aload_n 0, 1) := by decide +kernel
theorem dX11_yarnOf_1 : decode cX11_yarnOf 1 = .ok (.aload_n 0, 1) := by decide +kernel
theorem dX11_yarnOf_2 : decode cX11_yarnOf 2 = .ok (.iload_n 1, 1) := by decide +kernel
theorem dX11_yarnOf_3 : decode cX11_yarnOf 3 = .ok (.iload_n 2, 1) := by decide +kernel
theorem dX11_yarnOf_4 : decode cX11_yarnOf 4 = .ok (.invokevirtual 62, 3) := by decide +kernel
theorem dX11_yarnOf_7 : decode cX11_yarnOf 7 = .ok (.iload_n 3, 1) := by decide +kernel
theorem dX11_yarnOf_8 : decode cX11_yarnOf 8 = .ok (.invokevirtual 132, 3) := by decide +kernel
theorem dX11_yarnOf_11 : decode cX11_yarnOf 11 = .ok (.ireturn, 1) := by decide +kernel
def rm_X11_yarnOf : Room := { frames := 2, cells := 0, slots := 0, locals := 43 }
def f_X11_yarnOf (τ : gτ) (x0 : Nat) (x1 : Int32) (x2 : Int32) (x3 : Int32) (G : gG) : Option (Int32) :=
  (f_X11_of τ x0 x1 x2 G).bind fun v1 =>
  (f_X11_ofYarn τ x0 v1 x3 G).bind fun v2 =>
  some (v2)
set_option maxHeartbeats 4000000 in
set_option maxRecDepth 100000 in
theorem c_X11_yarnOf (l : Launch) (X : gX) (τ : gτ) (x0 : Nat) (x1 : Int32) (x2 : Int32) (x3 : Int32) (G : gG) (h0 : gK τ x0 11) {r : Int32}  (h : f_X11_yarnOf τ x0 x1 x2 x3 G = some r) : gM l X τ yX11_yarnOf cX11_yarnOf 4 (some .int) rm_X11_yarnOf [.ref x0, .int x1, .int x2, .int x3] G (some (.int r)) G := by
  refine g_body (by decide +kernel) (Nat.le_of_ble_eq_true rfl) ?_
  intro p e s m args below meth c ls fx hr hw hl
  have fx : gFx X p s m args meth c cX11_yarnOf 4 RX11 := fx
  have hl : lv_has ls 4 [(0, .ref x0), (1, .int x1), (2, .int x2), (3, .int x3)] := hl
  have hok : gOk (f_X11_yarnOf τ x0 x1 x2 x3 G) (fun q => q = r) := ⟨_, h, rfl⟩
  unfold f_X11_yarnOf at hok
  show W p l e rm_X11_yarnOf s m args below meth c s.heap [] 0 0 (MQ below (gQ X τ (some (.int r)) G) args s 0 0 (gFree X)) _
  refine lv_aload_n fx.1 fx.2.1 dX11_yarnOf_0 rfl (lv_at hl 0 rfl) ?_
  refine lv_aload_n fx.1 fx.2.1 dX11_yarnOf_1 rfl (lv_at hl 0 rfl) ?_
  refine lv_iload_n fx.1 fx.2.1 dX11_yarnOf_2 rfl (lv_at hl 1 rfl) ?_
  refine lv_iload_n fx.1 fx.2.1 dX11_yarnOf_3 rfl (lv_at hl 2 rfl) ?_
  obtain ⟨v1, hf, hok⟩ := gOk_bind hok
  refine g_callV0 (κ := 11) fx hw (c_X11_of l X τ x0 x1 x2 G h0 hf) lv_RX11_62 ⟨rfl, rfl⟩ rfl rfl h0 rfl hl.1 rfl ⟨Nat.le_of_ble_eq_true rfl, Nat.le_of_ble_eq_true rfl⟩ (Nat.le_of_ble_eq_true rfl) ⟨Nat.le_of_ble_eq_true rfl, Nat.le_of_ble_eq_true rfl⟩ dX11_yarnOf_4 (fun H locs hw => ?_)
  refine lv_iload_n fx.1 fx.2.1 dX11_yarnOf_7 rfl (lv_at hl 3 rfl) ?_
  obtain ⟨v2, hf, hok⟩ := gOk_bind hok
  refine g_callV0 (κ := 11) fx hw (c_X11_ofYarn l X τ x0 v1 x3 G h0 hf) lv_RX11_132 ⟨rfl, rfl⟩ rfl rfl h0 rfl hl.1 rfl ⟨Nat.le_of_ble_eq_true rfl, Nat.le_of_ble_eq_true rfl⟩ (Nat.le_of_ble_eq_true rfl) ⟨Nat.le_of_ble_eq_true rfl, Nat.le_of_ble_eq_true rfl⟩ dX11_yarnOf_8 (fun H locs hw => ?_)
  cases gOk_some hok
  exact g_iret fx hw hr dX11_yarnOf_11
theorem dX11_weakOf_0 : decode cX11_weakOf 0 = .ok (.aload_n 0, 1) := by decide +kernel
theorem dX11_weakOf_1 : decode cX11_weakOf 1 = .ok (.iload_n 1, 1) := by decide +kernel
theorem dX11_weakOf_2 : decode cX11_weakOf 2 = .ok (.iconst 0, 1) := by decide +kernel
theorem dX11_weakOf_3 : decode cX11_weakOf 3 = .ok (.iconst 0, 1) := by decide +kernel
theorem dX11_weakOf_4 : decode cX11_weakOf 4 = .ok (.invokevirtual 266, 3) := by decide +kernel
theorem dX11_weakOf_7 : decode cX11_weakOf 7 = .ok (.aload_n 0, 1) := by decide +kernel
theorem dX11_weakOf_8 : decode cX11_weakOf 8 = .ok (.iload_n 1, 1) := by decide +kernel
theorem dX11_weakOf_9 : decode cX11_weakOf 9 = .ok (.iconst 1, 1) := by decide +kernel
theorem dX11_weakOf_10 : decode cX11_weakOf 10 = .ok (.iconst 0, 1) := by decide +kernel
theorem dX11_weakOf_11 : decode cX11_weakOf 11 = .ok (.invokevirtual 266, 3) := by decide +kernel
theorem dX11_weakOf_14 : decode cX11_weakOf 14 = .ok (.aload_n 0, 1) := by decide +kernel
theorem dX11_weakOf_15 : decode cX11_weakOf 15 = .ok (.iload_n 1, 1) := by decide +kernel
theorem dX11_weakOf_16 : decode cX11_weakOf 16 = .ok (.iconst 2, 1) := by decide +kernel
theorem dX11_weakOf_17 : decode cX11_weakOf 17 = .ok (.iconst 0, 1) := by decide +kernel
theorem dX11_weakOf_18 : decode cX11_weakOf 18 = .ok (.invokevirtual 266, 3) := by decide +kernel
theorem dX11_weakOf_21 : decode cX11_weakOf 21 = .ok (.invokestatic 135, 3) := by decide +kernel
theorem dX11_weakOf_24 : decode cX11_weakOf 24 = .ok (.invokestatic 135, 3) := by decide +kernel
theorem dX11_weakOf_27 : decode cX11_weakOf 27 = .ok (.ireturn, 1) := by decide +kernel
theorem lv_RX11_266 : gLv RX11 266 RX11 yX11_yarnOf cX11_yarnOf 4 (some .int) 3 := gLv_of (wA_t (wt8 (List.mem_of_getElem? (i := 57) (by decide +kernel))) (by decide +kernel)) (wA_t (wt8 (List.mem_of_getElem? (i := 59) (by decide +kernel))) (by decide +kernel)) (wA_of (List.mem_append_left _ (List.mem_map.mpr ⟨(⟨"YearRopeModel", "yarnOf", "(III)I"⟩, 20), wp6 (List.mem_of_getElem? (i := 7) (by decide +kernel)), rfl⟩)) (by decide +kernel)) (wA_t (wt1 (List.mem_of_getElem? (i := 12) (by decide +kernel))) (by decide +kernel)) (wA_t (wt8 (List.mem_of_getElem? (i := 60) (by decide +kernel))) (by decide +kernel)) ⟨rfl, by decide +kernel, by decide +kernel, by decide +kernel⟩
def rm_X11_weakOf : Room := { frames := 3, cells := 0, slots := 0, locals := 66 }
def f_X11_weakOf (τ : gτ) (x0 : Nat) (x1 : Int32) (G : gG) : Option (Int32) :=
  (f_X11_yarnOf τ x0 x1 (0 : Int32) (0 : Int32) G).bind fun v1 =>
  (f_X11_yarnOf τ x0 x1 (1 : Int32) (0 : Int32) G).bind fun v2 =>
  (f_X11_yarnOf τ x0 x1 (2 : Int32) (0 : Int32) G).bind fun v3 =>
  some (gmin v1 (gmin v2 v3))
set_option maxHeartbeats 4000000 in
set_option maxRecDepth 100000 in
theorem c_X11_weakOf (l : Launch) (X : gX) (τ : gτ) (x0 : Nat) (x1 : Int32) (G : gG) (h0 : gK τ x0 11) {r : Int32}  (h : f_X11_weakOf τ x0 x1 G = some r) : gM l X τ yX11_weakOf cX11_weakOf 2 (some .int) rm_X11_weakOf [.ref x0, .int x1] G (some (.int r)) G := by
  refine g_body (by decide +kernel) (Nat.le_of_ble_eq_true rfl) ?_
  intro p e s m args below meth c ls fx hr hw hl
  have fx : gFx X p s m args meth c cX11_weakOf 2 RX11 := fx
  have hl : lv_has ls 2 [(0, .ref x0), (1, .int x1)] := hl
  have hok : gOk (f_X11_weakOf τ x0 x1 G) (fun q => q = r) := ⟨_, h, rfl⟩
  unfold f_X11_weakOf at hok
  show W p l e rm_X11_weakOf s m args below meth c s.heap [] 0 0 (MQ below (gQ X τ (some (.int r)) G) args s 0 0 (gFree X)) _
  refine lv_aload_n fx.1 fx.2.1 dX11_weakOf_0 rfl (lv_at hl 0 rfl) ?_
  refine lv_iload_n fx.1 fx.2.1 dX11_weakOf_1 rfl (lv_at hl 1 rfl) ?_
  refine lv_iconst (v := 0) fx.1 fx.2.1 dX11_weakOf_2 (by decide) ?_
  refine lv_iconst (v := 0) fx.1 fx.2.1 dX11_weakOf_3 (by decide) ?_
  obtain ⟨v1, hf, hok⟩ := gOk_bind hok
  refine g_callV0 (κ := 11) fx hw (c_X11_yarnOf l X τ x0 x1 (0 : Int32) (0 : Int32) G h0 hf) lv_RX11_266 ⟨rfl, rfl⟩ rfl rfl h0 rfl hl.1 rfl ⟨Nat.le_of_ble_eq_true rfl, Nat.le_of_ble_eq_true rfl⟩ (Nat.le_of_ble_eq_true rfl) ⟨Nat.le_of_ble_eq_true rfl, Nat.le_of_ble_eq_true rfl⟩ dX11_weakOf_4 (fun H locs hw => ?_)
  refine lv_aload_n fx.1 fx.2.1 dX11_weakOf_7 rfl (lv_at hl 0 rfl) ?_
  refine lv_iload_n fx.1 fx.2.1 dX11_weakOf_8 rfl (lv_at hl 1 rfl) ?_
  refine lv_iconst (v := 1) fx.1 fx.2.1 dX11_weakOf_9 (by decide) ?_
  refine lv_iconst (v := 0) fx.1 fx.2.1 dX11_weakOf_10 (by decide) ?_
  obtain ⟨v2, hf, hok⟩ := gOk_bind hok
  refine g_callV0 (κ := 11) fx hw (c_X11_yarnOf l X τ x0 x1 (1 : Int32) (0 : Int32) G h0 hf) lv_RX11_266 ⟨rfl, rfl⟩ rfl rfl h0 rfl hl.1 rfl ⟨Nat.le_of_ble_eq_true rfl, Nat.le_of_ble_eq_true rfl⟩ (Nat.le_of_ble_eq_true rfl) ⟨Nat.le_of_ble_eq_true rfl, Nat.le_of_ble_eq_true rfl⟩ dX11_weakOf_11 (fun H locs hw => ?_)
  refine lv_aload_n fx.1 fx.2.1 dX11_weakOf_14 rfl (lv_at hl 0 rfl) ?_
  refine lv_iload_n fx.1 fx.2.1 dX11_weakOf_15 rfl (lv_at hl 1 rfl) ?_
  refine lv_iconst (v := 2) fx.1 fx.2.1 dX11_weakOf_16 (by decide) ?_
  refine lv_iconst (v := 0) fx.1 fx.2.1 dX11_weakOf_17 (by decide) ?_
  obtain ⟨v3, hf, hok⟩ := gOk_bind hok
  refine g_callV0 (κ := 11) fx hw (c_X11_yarnOf l X τ x0 x1 (2 : Int32) (0 : Int32) G h0 hf) lv_RX11_266 ⟨rfl, rfl⟩ rfl rfl h0 rfl hl.1 rfl ⟨Nat.le_of_ble_eq_true rfl, Nat.le_of_ble_eq_true rfl⟩ (Nat.le_of_ble_eq_true rfl) ⟨Nat.le_of_ble_eq_true rfl, Nat.le_of_ble_eq_true rfl⟩ dX11_weakOf_18 (fun H locs hw => ?_)
  refine g_mmin fx hl.1 lm_RX11_135 lmst_min lm_init lmco_min ⟨Nat.le_of_ble_eq_true rfl, Nat.le_of_ble_eq_true rfl, Nat.le_of_ble_eq_true rfl, Nat.le_of_ble_eq_true rfl⟩ dX11_weakOf_21 ?_
  refine g_mmin fx hl.1 lm_RX11_135 lmst_min lm_init lmco_min ⟨Nat.le_of_ble_eq_true rfl, Nat.le_of_ble_eq_true rfl, Nat.le_of_ble_eq_true rfl, Nat.le_of_ble_eq_true rfl⟩ dX11_weakOf_24 ?_
  cases gOk_some hok
  exact g_iret fx hw hr dX11_weakOf_27
theorem dX11_strongOf_0 : decode cX11_strongOf 0 = .ok (.aload_n 0, 1) := by decide +kernel
theorem dX11_strongOf_1 : decode cX11_strongOf 1 = .ok (.iload_n 1, 1) := by decide +kernel
theorem dX11_strongOf_2 : decode cX11_strongOf 2 = .ok (.iconst 0, 1) := by decide +kernel
theorem dX11_strongOf_3 : decode cX11_strongOf 3 = .ok (.iconst 0, 1) := by decide +kernel
theorem dX11_strongOf_4 : decode cX11_strongOf 4 = .ok (.invokevirtual 266, 3) := by decide +kernel
theorem dX11_strongOf_7 : decode cX11_strongOf 7 = .ok (.aload_n 0, 1) := by decide +kernel
theorem dX11_strongOf_8 : decode cX11_strongOf 8 = .ok (.iload_n 1, 1) := by decide +kernel
theorem dX11_strongOf_9 : decode cX11_strongOf 9 = .ok (.iconst 1, 1) := by decide +kernel
theorem dX11_strongOf_10 : decode cX11_strongOf 10 = .ok (.iconst 0, 1) := by decide +kernel
theorem dX11_strongOf_11 : decode cX11_strongOf 11 = .ok (.invokevirtual 266, 3) := by decide +kernel
theorem dX11_strongOf_14 : decode cX11_strongOf 14 = .ok (.aload_n 0, 1) := by decide +kernel
theorem dX11_strongOf_15 : decode cX11_strongOf 15 = .ok (.iload_n 1, 1) := by decide +kernel
theorem dX11_strongOf_16 : decode cX11_strongOf 16 = .ok (.iconst 2, 1) := by decide +kernel
theorem dX11_strongOf_17 : decode cX11_strongOf 17 = .ok (.iconst 0, 1) := by decide +kernel
theorem dX11_strongOf_18 : decode cX11_strongOf 18 = .ok (.invokevirtual 266, 3) := by decide +kernel
theorem dX11_strongOf_21 : decode cX11_strongOf 21 = .ok (.invokestatic 270, 3) := by decide +kernel
theorem dX11_strongOf_24 : decode cX11_strongOf 24 = .ok (.invokestatic 270, 3) := by decide +kernel
theorem dX11_strongOf_27 : decode cX11_strongOf 27 = .ok (.ireturn, 1) := by decide +kernel
theorem lm_RX11_270 : Cond.methodLink RX11 270 Lib.Math.max.name ∈ wA := wA_t (wt8 (List.mem_of_getElem? (i := 13) (by decide +kernel))) (by decide +kernel)
def rm_X11_strongOf : Room := { frames := 3, cells := 0, slots := 0, locals := 66 }
def f_X11_strongOf (τ : gτ) (x0 : Nat) (x1 : Int32) (G : gG) : Option (Int32) :=
  (f_X11_yarnOf τ x0 x1 (0 : Int32) (0 : Int32) G).bind fun v1 =>
  (f_X11_yarnOf τ x0 x1 (1 : Int32) (0 : Int32) G).bind fun v2 =>
  (f_X11_yarnOf τ x0 x1 (2 : Int32) (0 : Int32) G).bind fun v3 =>
  some (gmax v1 (gmax v2 v3))
set_option maxHeartbeats 4000000 in
set_option maxRecDepth 100000 in
theorem c_X11_strongOf (l : Launch) (X : gX) (τ : gτ) (x0 : Nat) (x1 : Int32) (G : gG) (h0 : gK τ x0 11) {r : Int32}  (h : f_X11_strongOf τ x0 x1 G = some r) : gM l X τ yX11_strongOf cX11_strongOf 2 (some .int) rm_X11_strongOf [.ref x0, .int x1] G (some (.int r)) G := by
  refine g_body (by decide +kernel) (Nat.le_of_ble_eq_true rfl) ?_
  intro p e s m args below meth c ls fx hr hw hl
  have fx : gFx X p s m args meth c cX11_strongOf 2 RX11 := fx
  have hl : lv_has ls 2 [(0, .ref x0), (1, .int x1)] := hl
  have hok : gOk (f_X11_strongOf τ x0 x1 G) (fun q => q = r) := ⟨_, h, rfl⟩
  unfold f_X11_strongOf at hok
  show W p l e rm_X11_strongOf s m args below meth c s.heap [] 0 0 (MQ below (gQ X τ (some (.int r)) G) args s 0 0 (gFree X)) _
  refine lv_aload_n fx.1 fx.2.1 dX11_strongOf_0 rfl (lv_at hl 0 rfl) ?_
  refine lv_iload_n fx.1 fx.2.1 dX11_strongOf_1 rfl (lv_at hl 1 rfl) ?_
  refine lv_iconst (v := 0) fx.1 fx.2.1 dX11_strongOf_2 (by decide) ?_
  refine lv_iconst (v := 0) fx.1 fx.2.1 dX11_strongOf_3 (by decide) ?_
  obtain ⟨v1, hf, hok⟩ := gOk_bind hok
  refine g_callV0 (κ := 11) fx hw (c_X11_yarnOf l X τ x0 x1 (0 : Int32) (0 : Int32) G h0 hf) lv_RX11_266 ⟨rfl, rfl⟩ rfl rfl h0 rfl hl.1 rfl ⟨Nat.le_of_ble_eq_true rfl, Nat.le_of_ble_eq_true rfl⟩ (Nat.le_of_ble_eq_true rfl) ⟨Nat.le_of_ble_eq_true rfl, Nat.le_of_ble_eq_true rfl⟩ dX11_strongOf_4 (fun H locs hw => ?_)
  refine lv_aload_n fx.1 fx.2.1 dX11_strongOf_7 rfl (lv_at hl 0 rfl) ?_
  refine lv_iload_n fx.1 fx.2.1 dX11_strongOf_8 rfl (lv_at hl 1 rfl) ?_
  refine lv_iconst (v := 1) fx.1 fx.2.1 dX11_strongOf_9 (by decide) ?_
  refine lv_iconst (v := 0) fx.1 fx.2.1 dX11_strongOf_10 (by decide) ?_
  obtain ⟨v2, hf, hok⟩ := gOk_bind hok
  refine g_callV0 (κ := 11) fx hw (c_X11_yarnOf l X τ x0 x1 (1 : Int32) (0 : Int32) G h0 hf) lv_RX11_266 ⟨rfl, rfl⟩ rfl rfl h0 rfl hl.1 rfl ⟨Nat.le_of_ble_eq_true rfl, Nat.le_of_ble_eq_true rfl⟩ (Nat.le_of_ble_eq_true rfl) ⟨Nat.le_of_ble_eq_true rfl, Nat.le_of_ble_eq_true rfl⟩ dX11_strongOf_11 (fun H locs hw => ?_)
  refine lv_aload_n fx.1 fx.2.1 dX11_strongOf_14 rfl (lv_at hl 0 rfl) ?_
  refine lv_iload_n fx.1 fx.2.1 dX11_strongOf_15 rfl (lv_at hl 1 rfl) ?_
  refine lv_iconst (v := 2) fx.1 fx.2.1 dX11_strongOf_16 (by decide) ?_
  refine lv_iconst (v := 0) fx.1 fx.2.1 dX11_strongOf_17 (by decide) ?_
  obtain ⟨v3, hf, hok⟩ := gOk_bind hok
  refine g_callV0 (κ := 11) fx hw (c_X11_yarnOf l X τ x0 x1 (2 : Int32) (0 : Int32) G h0 hf) lv_RX11_266 ⟨rfl, rfl⟩ rfl rfl h0 rfl hl.1 rfl ⟨Nat.le_of_ble_eq_true rfl, Nat.le_of_ble_eq_true rfl⟩ (Nat.le_of_ble_eq_true rfl) ⟨Nat.le_of_ble_eq_true rfl, Nat.le_of_ble_eq_true rfl⟩ dX11_strongOf_18 (fun H locs hw => ?_)
  refine g_mmax fx hl.1 lm_RX11_270 lmst_max lm_init lmco_max ⟨Nat.le_of_ble_eq_true rfl, Nat.le_of_ble_eq_true rfl, Nat.le_of_ble_eq_true rfl, Nat.le_of_ble_eq_true rfl⟩ dX11_strongOf_21 ?_
  refine g_mmax fx hl.1 lm_RX11_270 lmst_max lm_init lmco_max ⟨Nat.le_of_ble_eq_true rfl, Nat.le_of_ble_eq_true rfl, Nat.le_of_ble_eq_true rfl, Nat.le_of_ble_eq_true rfl⟩ dX11_strongOf_24 ?_
  cases gOk_some hok
  exact g_iret fx hw hr dX11_strongOf_27
theorem dX11_rotOf_0 : decode cX11_rotOf 0 = .ok (.aload_n 0, 1) := by decide +kernel
theorem dX11_rotOf_1 : decode cX11_rotOf 1 = .ok (.iload_n 1, 1) := by decide +kernel
theorem dX11_rotOf_2 : decode cX11_rotOf 2 = .ok (.iconst 0, 1) := by decide +kernel
theorem dX11_rotOf_3 : decode cX11_rotOf 3 = .ok (.iconst 2, 1) := by decide +kernel
theorem dX11_rotOf_4 : decode cX11_rotOf 4 = .ok (.invokevirtual 266, 3) := by decide +kernel
theorem dX11_rotOf_7 : decode cX11_rotOf 7 = .ok (.aload_n 0, 1) := by decide +kernel
theorem dX11_rotOf_8 : decode cX11_rotOf 8 = .ok (.iload_n 1, 1) := by decide +kernel
theorem dX11_rotOf_9 : decode cX11_rotOf 9 = .ok (.iconst 1, 1) := by decide +kernel
theorem dX11_rotOf_10 : decode cX11_rotOf 10 = .ok (.iconst 2, 1) := by decide +kernel
theorem dX11_rotOf_11 : decode cX11_rotOf 11 = .ok (.invokevirtual 266, 3) := by decide +kernel
theorem dX11_rotOf_14 : decode cX11_rotOf 14 = .ok (.iadd, 1) := by decide +kernel
theorem dX11_rotOf_15 : decode cX11_rotOf 15 = .ok (.aload_n 0, 1) := by decide +kernel
theorem dX11_rotOf_16 : decode cX11_rotOf 16 = .ok (.iload_n 1, 1) := by decide +kernel
theorem dX11_rotOf_17 : decode cX11_rotOf 17 = .ok (.iconst 2, 1) := by decide +kernel
theorem dX11_rotOf_18 : decode cX11_rotOf 18 = .ok (.iconst 2, 1) := by decide +kernel
theorem dX11_rotOf_19 : decode cX11_rotOf 19 = .ok (.invokevirtual 266, 3) := by decide +kernel
theorem dX11_rotOf_22 : decode cX11_rotOf 22 = .ok (.iadd, 1) := by decide +kernel
theorem dX11_rotOf_23 : decode cX11_rotOf 23 = .ok (.ireturn, 1) := by decide +kernel
def rm_X11_rotOf : Room := { frames := 3, cells := 0, slots := 0, locals := 66 }
def f_X11_rotOf (τ : gτ) (x0 : Nat) (x1 : Int32) (G : gG) : Option (Int32) :=
  (f_X11_yarnOf τ x0 x1 (0 : Int32) (2 : Int32) G).bind fun v1 =>
  (f_X11_yarnOf τ x0 x1 (1 : Int32) (2 : Int32) G).bind fun v2 =>
  (f_X11_yarnOf τ x0 x1 (2 : Int32) (2 : Int32) G).bind fun v3 =>
  some ((v1 + v2) + v3)
set_option maxHeartbeats 4000000 in
set_option maxRecDepth 100000 in
theorem c_X11_rotOf (l : Launch) (X : gX) (τ : gτ) (x0 : Nat) (x1 : Int32) (G : gG) (h0 : gK τ x0 11) {r : Int32}  (h : f_X11_rotOf τ x0 x1 G = some r) : gM l X τ yX11_rotOf cX11_rotOf 2 (some .int) rm_X11_rotOf [.ref x0, .int x1] G (some (.int r)) G := by
  refine g_body (by decide +kernel) (Nat.le_of_ble_eq_true rfl) ?_
  intro p e s m args below meth c ls fx hr hw hl
  have fx : gFx X p s m args meth c cX11_rotOf 2 RX11 := fx
  have hl : lv_has ls 2 [(0, .ref x0), (1, .int x1)] := hl
  have hok : gOk (f_X11_rotOf τ x0 x1 G) (fun q => q = r) := ⟨_, h, rfl⟩
  unfold f_X11_rotOf at hok
  show W p l e rm_X11_rotOf s m args below meth c s.heap [] 0 0 (MQ below (gQ X τ (some (.int r)) G) args s 0 0 (gFree X)) _
  refine lv_aload_n fx.1 fx.2.1 dX11_rotOf_0 rfl (lv_at hl 0 rfl) ?_
  refine lv_iload_n fx.1 fx.2.1 dX11_rotOf_1 rfl (lv_at hl 1 rfl) ?_
  refine lv_iconst (v := 0) fx.1 fx.2.1 dX11_rotOf_2 (by decide) ?_
  refine lv_iconst (v := 2) fx.1 fx.2.1 dX11_rotOf_3 (by decide) ?_
  obtain ⟨v1, hf, hok⟩ := gOk_bind hok
  refine g_callV0 (κ := 11) fx hw (c_X11_yarnOf l X τ x0 x1 (0 : Int32) (2 : Int32) G h0 hf) lv_RX11_266 ⟨rfl, rfl⟩ rfl rfl h0 rfl hl.1 rfl ⟨Nat.le_of_ble_eq_true rfl, Nat.le_of_ble_eq_true rfl⟩ (Nat.le_of_ble_eq_true rfl) ⟨Nat.le_of_ble_eq_true rfl, Nat.le_of_ble_eq_true rfl⟩ dX11_rotOf_4 (fun H locs hw => ?_)
  refine lv_aload_n fx.1 fx.2.1 dX11_rotOf_7 rfl (lv_at hl 0 rfl) ?_
  refine lv_iload_n fx.1 fx.2.1 dX11_rotOf_8 rfl (lv_at hl 1 rfl) ?_
  refine lv_iconst (v := 1) fx.1 fx.2.1 dX11_rotOf_9 (by decide) ?_
  refine lv_iconst (v := 2) fx.1 fx.2.1 dX11_rotOf_10 (by decide) ?_
  obtain ⟨v2, hf, hok⟩ := gOk_bind hok
  refine g_callV0 (κ := 11) fx hw (c_X11_yarnOf l X τ x0 x1 (1 : Int32) (2 : Int32) G h0 hf) lv_RX11_266 ⟨rfl, rfl⟩ rfl rfl h0 rfl hl.1 rfl ⟨Nat.le_of_ble_eq_true rfl, Nat.le_of_ble_eq_true rfl⟩ (Nat.le_of_ble_eq_true rfl) ⟨Nat.le_of_ble_eq_true rfl, Nat.le_of_ble_eq_true rfl⟩ dX11_rotOf_11 (fun H locs hw => ?_)
  refine lv_iadd fx.1 fx.2.1 dX11_rotOf_14 ?_
  refine lv_aload_n fx.1 fx.2.1 dX11_rotOf_15 rfl (lv_at hl 0 rfl) ?_
  refine lv_iload_n fx.1 fx.2.1 dX11_rotOf_16 rfl (lv_at hl 1 rfl) ?_
  refine lv_iconst (v := 2) fx.1 fx.2.1 dX11_rotOf_17 (by decide) ?_
  refine lv_iconst (v := 2) fx.1 fx.2.1 dX11_rotOf_18 (by decide) ?_
  obtain ⟨v3, hf, hok⟩ := gOk_bind hok
  refine g_callV0 (κ := 11) fx hw (c_X11_yarnOf l X τ x0 x1 (2 : Int32) (2 : Int32) G h0 hf) lv_RX11_266 ⟨rfl, rfl⟩ rfl rfl h0 rfl hl.1 rfl ⟨Nat.le_of_ble_eq_true rfl, Nat.le_of_ble_eq_true rfl⟩ (Nat.le_of_ble_eq_true rfl) ⟨Nat.le_of_ble_eq_true rfl, Nat.le_of_ble_eq_true rfl⟩ dX11_rotOf_19 (fun H locs hw => ?_)
  refine lv_iadd fx.1 fx.2.1 dX11_rotOf_22 ?_
  cases gOk_some hok
  exact g_iret fx hw hr dX11_rotOf_23
theorem dX11_reignsOf_0 : decode cX11_reignsOf 0 = .ok (.iconst 1, 1) := by decide +kernel
theorem dX11_reignsOf_1 : decode cX11_reignsOf 1 = .ok (.aload_n 0, 1) := by decide +kernel
theorem dX11_reignsOf_2 : decode cX11_reignsOf 2 = .ok (.iload_n 1, 1) := by decide +kernel
theorem dX11_reignsOf_3 : decode cX11_reignsOf 3 = .ok (.iconst 0, 1) := by decide +kernel
theorem dX11_reignsOf_4 : decode cX11_reignsOf 4 = .ok (.iconst 3, 1) := by decide +kernel
theorem dX11_reignsOf_5 : decode cX11_reignsOf 5 = .ok (.invokevirtual 266, 3) := by decide +kernel
theorem dX11_reignsOf_8 : decode cX11_reignsOf 8 = .ok (.ishl, 1) := by decide +kernel
theorem dX11_reignsOf_9 : decode cX11_reignsOf 9 = .ok (.iconst 1, 1) := by decide +kernel
theorem dX11_reignsOf_10 : decode cX11_reignsOf 10 = .ok (.aload_n 0, 1) := by decide +kernel
theorem dX11_reignsOf_11 : decode cX11_reignsOf 11 = .ok (.iload_n 1, 1) := by decide +kernel
theorem dX11_reignsOf_12 : decode cX11_reignsOf 12 = .ok (.iconst 1, 1) := by decide +kernel
theorem dX11_reignsOf_13 : decode cX11_reignsOf 13 = .ok (.iconst 3, 1) := by decide +kernel
theorem dX11_reignsOf_14 : decode cX11_reignsOf 14 = .ok (.invokevirtual 266, 3) := by decide +kernel
theorem dX11_reignsOf_17 : decode cX11_reignsOf 17 = .ok (.ishl, 1) := by decide +kernel
theorem dX11_reignsOf_18 : decode cX11_reignsOf 18 = .ok (.ior, 1) := by decide +kernel
theorem dX11_reignsOf_19 : decode cX11_reignsOf 19 = .ok (.iconst 1, 1) := by decide +kernel
theorem dX11_reignsOf_20 : decode cX11_reignsOf 20 = .ok (.aload_n 0, 1) := by decide +kernel
theorem dX11_reignsOf_21 : decode cX11_reignsOf 21 = .ok (.iload_n 1, 1) := by decide +kernel
theorem dX11_reignsOf_22 : decode cX11_reignsOf 22 = .ok (.iconst 2, 1) := by decide +kernel
theorem dX11_reignsOf_23 : decode cX11_reignsOf 23 = .ok (.iconst 3, 1) := by decide +kernel
theorem dX11_reignsOf_24 : decode cX11_reignsOf 24 = .ok (.invokevirtual 266, 3) := by decide +kernel
theorem dX11_reignsOf_27 : decode cX11_reignsOf 27 = .ok (.ishl, 1) := by decide +kernel
theorem dX11_reignsOf_28 : decode cX11_reignsOf 28 = .ok (.ior, 1) := by decide +kernel
theorem dX11_reignsOf_29 : decode cX11_reignsOf 29 = .ok (.invokestatic 273, 3) := by decide +kernel
theorem dX11_reignsOf_32 : decode cX11_reignsOf 32 = .ok (.ireturn, 1) := by decide +kernel
theorem ls_RX11_273 : gLs RX11 273 yJ6_bitCount_0f7a4 cJ6_bitCount_0f7a4 1 (some .int) 1 := gLs_of (wA_t (wt8 (List.mem_of_getElem? (i := 73) (by decide +kernel))) (by decide +kernel)) (wA_t (wt2 (List.mem_of_getElem? (i := 223) (by decide +kernel))) (by decide +kernel)) (wA_t (wt1 (List.mem_of_getElem? (i := 26) (by decide +kernel))) (by decide +kernel)) (wA_t (wt2 (List.mem_of_getElem? (i := 224) (by decide +kernel))) (by decide +kernel)) ⟨by decide +kernel, by decide +kernel, by decide +kernel⟩
def rm_X11_reignsOf : Room := { frames := 3, cells := 0, slots := 0, locals := 66 }
def f_X11_reignsOf (τ : gτ) (x0 : Nat) (x1 : Int32) (G : gG) : Option (Int32) :=
  (f_X11_yarnOf τ x0 x1 (0 : Int32) (3 : Int32) G).bind fun v1 =>
  (f_X11_yarnOf τ x0 x1 (1 : Int32) (3 : Int32) G).bind fun v2 =>
  (f_X11_yarnOf τ x0 x1 (2 : Int32) (3 : Int32) G).bind fun v3 =>
  (f_J6_bitCount_0f7a4 ((((1 : Int32) <<< (v1 &&& 31)) ||| ((1 : Int32) <<< (v2 &&& 31))) ||| ((1 : Int32) <<< (v3 &&& 31)))).bind fun v4 =>
  some (v4)
set_option maxHeartbeats 4000000 in
set_option maxRecDepth 100000 in
theorem c_X11_reignsOf (l : Launch) (X : gX) (τ : gτ) (x0 : Nat) (x1 : Int32) (G : gG) (h0 : gK τ x0 11) {r : Int32}  (h : f_X11_reignsOf τ x0 x1 G = some r) : gM l X τ yX11_reignsOf cX11_reignsOf 2 (some .int) rm_X11_reignsOf [.ref x0, .int x1] G (some (.int r)) G := by
  refine g_body (by decide +kernel) (Nat.le_of_ble_eq_true rfl) ?_
  intro p e s m args below meth c ls fx hr hw hl
  have fx : gFx X p s m args meth c cX11_reignsOf 2 RX11 := fx
  have hl : lv_has ls 2 [(0, .ref x0), (1, .int x1)] := hl
  have hok : gOk (f_X11_reignsOf τ x0 x1 G) (fun q => q = r) := ⟨_, h, rfl⟩
  unfold f_X11_reignsOf at hok
  show W p l e rm_X11_reignsOf s m args below meth c s.heap [] 0 0 (MQ below (gQ X τ (some (.int r)) G) args s 0 0 (gFree X)) _
  refine lv_iconst (v := 1) fx.1 fx.2.1 dX11_reignsOf_0 (by decide) ?_
  refine lv_aload_n fx.1 fx.2.1 dX11_reignsOf_1 rfl (lv_at hl 0 rfl) ?_
  refine lv_iload_n fx.1 fx.2.1 dX11_reignsOf_2 rfl (lv_at hl 1 rfl) ?_
  refine lv_iconst (v := 0) fx.1 fx.2.1 dX11_reignsOf_3 (by decide) ?_
  refine lv_iconst (v := 3) fx.1 fx.2.1 dX11_reignsOf_4 (by decide) ?_
  obtain ⟨v1, hf, hok⟩ := gOk_bind hok
  refine g_callV0 (κ := 11) fx hw (c_X11_yarnOf l X τ x0 x1 (0 : Int32) (3 : Int32) G h0 hf) lv_RX11_266 ⟨rfl, rfl⟩ rfl rfl h0 rfl hl.1 rfl ⟨Nat.le_of_ble_eq_true rfl, Nat.le_of_ble_eq_true rfl⟩ (Nat.le_of_ble_eq_true rfl) ⟨Nat.le_of_ble_eq_true rfl, Nat.le_of_ble_eq_true rfl⟩ dX11_reignsOf_5 (fun H locs hw => ?_)
  refine lv_ishl fx.1 fx.2.1 dX11_reignsOf_8 ?_
  refine lv_iconst (v := 1) fx.1 fx.2.1 dX11_reignsOf_9 (by decide) ?_
  refine lv_aload_n fx.1 fx.2.1 dX11_reignsOf_10 rfl (lv_at hl 0 rfl) ?_
  refine lv_iload_n fx.1 fx.2.1 dX11_reignsOf_11 rfl (lv_at hl 1 rfl) ?_
  refine lv_iconst (v := 1) fx.1 fx.2.1 dX11_reignsOf_12 (by decide) ?_
  refine lv_iconst (v := 3) fx.1 fx.2.1 dX11_reignsOf_13 (by decide) ?_
  obtain ⟨v2, hf, hok⟩ := gOk_bind hok
  refine g_callV0 (κ := 11) fx hw (c_X11_yarnOf l X τ x0 x1 (1 : Int32) (3 : Int32) G h0 hf) lv_RX11_266 ⟨rfl, rfl⟩ rfl rfl h0 rfl hl.1 rfl ⟨Nat.le_of_ble_eq_true rfl, Nat.le_of_ble_eq_true rfl⟩ (Nat.le_of_ble_eq_true rfl) ⟨Nat.le_of_ble_eq_true rfl, Nat.le_of_ble_eq_true rfl⟩ dX11_reignsOf_14 (fun H locs hw => ?_)
  refine lv_ishl fx.1 fx.2.1 dX11_reignsOf_17 ?_
  refine lv_ior fx.1 fx.2.1 dX11_reignsOf_18 ?_
  refine lv_iconst (v := 1) fx.1 fx.2.1 dX11_reignsOf_19 (by decide) ?_
  refine lv_aload_n fx.1 fx.2.1 dX11_reignsOf_20 rfl (lv_at hl 0 rfl) ?_
  refine lv_iload_n fx.1 fx.2.1 dX11_reignsOf_21 rfl (lv_at hl 1 rfl) ?_
  refine lv_iconst (v := 2) fx.1 fx.2.1 dX11_reignsOf_22 (by decide) ?_
  refine lv_iconst (v := 3) fx.1 fx.2.1 dX11_reignsOf_23 (by decide) ?_
  obtain ⟨v3, hf, hok⟩ := gOk_bind hok
  refine g_callV0 (κ := 11) fx hw (c_X11_yarnOf l X τ x0 x1 (2 : Int32) (3 : Int32) G h0 hf) lv_RX11_266 ⟨rfl, rfl⟩ rfl rfl h0 rfl hl.1 rfl ⟨Nat.le_of_ble_eq_true rfl, Nat.le_of_ble_eq_true rfl⟩ (Nat.le_of_ble_eq_true rfl) ⟨Nat.le_of_ble_eq_true rfl, Nat.le_of_ble_eq_true rfl⟩ dX11_reignsOf_24 (fun H locs hw => ?_)
  refine lv_ishl fx.1 fx.2.1 dX11_reignsOf_27 ?_
  refine lv_ior fx.1 fx.2.1 dX11_reignsOf_28 ?_
  obtain ⟨v4, hf, hok⟩ := gOk_bind hok
  refine g_callS0 fx hw (c_J6_bitCount_0f7a4 l X τ ((((1 : Int32) <<< (v1 &&& 31)) ||| ((1 : Int32) <<< (v2 &&& 31))) ||| ((1 : Int32) <<< (v3 &&& 31))) G  hf) ls_RX11_273 ⟨rfl, rfl⟩ rfl hl.1 rfl ⟨Nat.le_of_ble_eq_true rfl, Nat.le_of_ble_eq_true rfl⟩ (Nat.le_of_ble_eq_true rfl) ⟨Nat.le_of_ble_eq_true rfl, Nat.le_of_ble_eq_true rfl⟩ dX11_reignsOf_29 (fun H locs hw => ?_)
  cases gOk_some hok
  exact g_iret fx hw hr dX11_reignsOf_32
theorem dX11_factOf_0 : decode cX11_factOf 0 = .ok (.iload_n 1, 1) := by decide +kernel
theorem dX11_factOf_1 : decode cX11_factOf 1 = .ok (.tableswitch 146 0 10 #[59, 65, 71, 77, 83, 90, 97, 104, 112, 120, 128], 59) := by decide +kernel
theorem dX11_factOf_60 : decode cX11_factOf 60 = .ok (.aload_n 0, 1) := by decide +kernel
theorem dX11_factOf_61 : decode cX11_factOf 61 = .ok (.iload_n 3, 1) := by decide +kernel
theorem dX11_factOf_62 : decode cX11_factOf 62 = .ok (.invokevirtual 279, 3) := by decide +kernel
theorem dX11_factOf_65 : decode cX11_factOf 65 = .ok (.ireturn, 1) := by decide +kernel
theorem dX11_factOf_66 : decode cX11_factOf 66 = .ok (.aload_n 0, 1) := by decide +kernel
theorem dX11_factOf_67 : decode cX11_factOf 67 = .ok (.iload_n 3, 1) := by decide +kernel
theorem dX11_factOf_68 : decode cX11_factOf 68 = .ok (.invokevirtual 282, 3) := by decide +kernel
theorem dX11_factOf_71 : decode cX11_factOf 71 = .ok (.ireturn, 1) := by decide +kernel
theorem dX11_factOf_72 : decode cX11_factOf 72 = .ok (.aload_n 0, 1) := by decide +kernel
theorem dX11_factOf_73 : decode cX11_factOf 73 = .ok (.iload_n 3, 1) := by decide +kernel
theorem dX11_factOf_74 : decode cX11_factOf 74 = .ok (.invokevirtual 285, 3) := by decide +kernel
theorem dX11_factOf_77 : decode cX11_factOf 77 = .ok (.ireturn, 1) := by decide +kernel
theorem dX11_factOf_78 : decode cX11_factOf 78 = .ok (.aload_n 0, 1) := by decide +kernel
theorem dX11_factOf_79 : decode cX11_factOf 79 = .ok (.iload_n 3, 1) := by decide +kernel
theorem dX11_factOf_80 : decode cX11_factOf 80 = .ok (.invokevirtual 288, 3) := by decide +kernel
theorem dX11_factOf_83 : decode cX11_factOf 83 = .ok (.ireturn, 1) := by decide +kernel
theorem dX11_factOf_84 : decode cX11_factOf 84 = .ok (.aload_n 0, 1) := by decide +kernel
theorem dX11_factOf_85 : decode cX11_factOf 85 = .ok (.iload_n 3, 1) := by decide +kernel
theorem dX11_factOf_86 : decode cX11_factOf 86 = .ok (.iconst 4, 1) := by decide +kernel
theorem dX11_factOf_87 : decode cX11_factOf 87 = .ok (.invokevirtual 62, 3) := by decide +kernel
theorem dX11_factOf_90 : decode cX11_factOf 90 = .ok (.ireturn, 1) := by decide +kernel
theorem dX11_factOf_91 : decode cX11_factOf 91 = .ok (.aload_n 0, 1) := by decide +kernel
theorem dX11_factOf_92 : decode cX11_factOf 92 = .ok (.iload_n 3, 1) := by decide +kernel
theorem dX11_factOf_93 : decode cX11_factOf 93 = .ok (.iconst 5, 1) := by decide +kernel
theorem dX11_factOf_94 : decode cX11_factOf 94 = .ok (.invokevirtual 62, 3) := by decide +kernel
theorem dX11_factOf_97 : decode cX11_factOf 97 = .ok (.ireturn, 1) := by decide +kernel
theorem dX11_factOf_98 : decode cX11_factOf 98 = .ok (.aload_n 0, 1) := by decide +kernel
theorem dX11_factOf_99 : decode cX11_factOf 99 = .ok (.iload_n 3, 1) := by decide +kernel
theorem dX11_factOf_100 : decode cX11_factOf 100 = .ok (.iconst 3, 1) := by decide +kernel
theorem dX11_factOf_101 : decode cX11_factOf 101 = .ok (.invokevirtual 62, 3) := by decide +kernel
theorem dX11_factOf_104 : decode cX11_factOf 104 = .ok (.ireturn, 1) := by decide +kernel
theorem dX11_factOf_105 : decode cX11_factOf 105 = .ok (.aload_n 0, 1) := by decide +kernel
theorem dX11_factOf_106 : decode cX11_factOf 106 = .ok (.iload_n 3, 1) := by decide +kernel
theorem dX11_factOf_107 : decode cX11_factOf 107 = .ok (.bipush 7, 2) := by decide +kernel
theorem dX11_factOf_109 : decode cX11_factOf 109 = .ok (.invokevirtual 62, 3) := by decide +kernel
theorem dX11_factOf_112 : decode cX11_factOf 112 = .ok (.ireturn, 1) := by decide +kernel
theorem dX11_factOf_113 : decode cX11_factOf 113 = .ok (.aload_n 0, 1) := by decide +kernel
theorem dX11_factOf_114 : decode cX11_factOf 114 = .ok (.iload_n 3, 1) := by decide +kernel
theorem dX11_factOf_115 : decode cX11_factOf 115 = .ok (.bipush 9, 2) := by decide +kernel
theorem dX11_factOf_117 : decode cX11_factOf 117 = .ok (.invokevirtual 62, 3) := by decide +kernel
theorem dX11_factOf_120 : decode cX11_factOf 120 = .ok (.ireturn, 1) := by decide +kernel
theorem dX11_factOf_121 : decode cX11_factOf 121 = .ok (.aload_n 0, 1) := by decide +kernel
theorem dX11_factOf_122 : decode cX11_factOf 122 = .ok (.iload_n 3, 1) := by decide +kernel
theorem dX11_factOf_123 : decode cX11_factOf 123 = .ok (.bipush 6, 2) := by decide +kernel
theorem dX11_factOf_125 : decode cX11_factOf 125 = .ok (.invokevirtual 62, 3) := by decide +kernel
theorem dX11_factOf_128 : decode cX11_factOf 128 = .ok (.ireturn, 1) := by decide +kernel
theorem dX11_factOf_129 : decode cX11_factOf 129 = .ok (.aload_n 0, 1) := by decide +kernel
theorem dX11_factOf_130 : decode cX11_factOf 130 = .ok (.getfield 13, 3) := by decide +kernel
theorem dX11_factOf_133 : decode cX11_factOf 133 = .ok (.iconst 5, 1) := by decide +kernel
theorem dX11_factOf_134 : decode cX11_factOf 134 = .ok (.iaload, 1) := by decide +kernel
theorem dX11_factOf_135 : decode cX11_factOf 135 = .ok (.iconst 4, 1) := by decide +kernel
theorem dX11_factOf_136 : decode cX11_factOf 136 = .ok (.irem, 1) := by decide +kernel
theorem dX11_factOf_137 : decode cX11_factOf 137 = .ok (.iconst 3, 1) := by decide +kernel
theorem dX11_factOf_138 : decode cX11_factOf 138 = .ok (.if_icmp .ne 7, 3) := by decide +kernel
theorem dX11_factOf_141 : decode cX11_factOf 141 = .ok (.iconst 1, 1) := by decide +kernel
theorem dX11_factOf_142 : decode cX11_factOf 142 = .ok (.goto 4, 3) := by decide +kernel
theorem dX11_factOf_145 : decode cX11_factOf 145 = .ok (.iconst 0, 1) := by decide +kernel
theorem dX11_factOf_146 : decode cX11_factOf 146 = .ok (.ireturn, 1) := by decide +kernel
theorem dX11_factOf_147 : decode cX11_factOf 147 = .ok (.iload_n 2, 1) := by decide +kernel
theorem dX11_factOf_148 : decode cX11_factOf 148 = .ok (.ireturn, 1) := by decide +kernel
theorem lv_RX11_279 : gLv RX11 279 RX11 yX11_weakOf cX11_weakOf 2 (some .int) 1 := gLv_of (wA_t (wt8 (List.mem_of_getElem? (i := 53) (by decide +kernel))) (by decide +kernel)) (wA_t (wt8 (List.mem_of_getElem? (i := 55) (by decide +kernel))) (by decide +kernel)) (wA_of (List.mem_append_left _ (List.mem_map.mpr ⟨(⟨"YearRopeModel", "weakOf", "(I)I"⟩, 20), wp6 (List.mem_of_getElem? (i := 6) (by decide +kernel)), rfl⟩)) (by decide +kernel)) (wA_t (wt1 (List.mem_of_getElem? (i := 12) (by decide +kernel))) (by decide +kernel)) (wA_t (wt8 (List.mem_of_getElem? (i := 56) (by decide +kernel))) (by decide +kernel)) ⟨rfl, by decide +kernel, by decide +kernel, by decide +kernel⟩
theorem lv_RX11_282 : gLv RX11 282 RX11 yX11_strongOf cX11_strongOf 2 (some .int) 1 := gLv_of (wA_t (wt8 (List.mem_of_getElem? (i := 61) (by decide +kernel))) (by decide +kernel)) (wA_t (wt8 (List.mem_of_getElem? (i := 63) (by decide +kernel))) (by decide +kernel)) (wA_of (List.mem_append_left _ (List.mem_map.mpr ⟨(⟨"YearRopeModel", "strongOf", "(I)I"⟩, 20), wp6 (List.mem_of_getElem? (i := 8) (by decide +kernel)), rfl⟩)) (by decide +kernel)) (wA_t (wt1 (List.mem_of_getElem? (i := 12) (by decide +kernel))) (by decide +kernel)) (wA_t (wt8 (List.mem_of_getElem? (i := 64) (by decide +kernel))) (by decide +kernel)) ⟨rfl, by decide +kernel, by decide +kernel, by decide +kernel⟩
theorem lv_RX11_285 : gLv RX11 285 RX11 yX11_rotOf cX11_rotOf 2 (some .int) 1 := gLv_of (wA_t (wt8 (List.mem_of_getElem? (i := 65) (by decide +kernel))) (by decide +kernel)) (wA_t (wt8 (List.mem_of_getElem? (i := 67) (by decide +kernel))) (by decide +kernel)) (wA_of (List.mem_append_left _ (List.mem_map.mpr ⟨(⟨"YearRopeModel", "rotOf", "(I)I"⟩, 20), wp6 (List.mem_of_getElem? (i := 9) (by decide +kernel)), rfl⟩)) (by decide +kernel)) (wA_t (wt1 (List.mem_of_getElem? (i := 12) (by decide +kernel))) (by decide +kernel)) (wA_t (wt8 (List.mem_of_getElem? (i := 68) (by decide +kernel))) (by decide +kernel)) ⟨rfl, by decide +kernel, by decide +kernel, by decide +kernel⟩
theorem lv_RX11_288 : gLv RX11 288 RX11 yX11_reignsOf cX11_reignsOf 2 (some .int) 1 := gLv_of (wA_t (wt8 (List.mem_of_getElem? (i := 69) (by decide +kernel))) (by decide +kernel)) (wA_t (wt8 (List.mem_of_getElem? (i := 71) (by decide +kernel))) (by decide +kernel)) (wA_of (List.mem_append_left _ (List.mem_map.mpr ⟨(⟨"YearRopeModel", "reignsOf", "(I)I"⟩, 20), wp6 (List.mem_of_getElem? (i := 10) (by decide +kernel)), rfl⟩)) (by decide +kernel)) (wA_t (wt1 (List.mem_of_getElem? (i := 12) (by decide +kernel))) (by decide +kernel)) (wA_t (wt8 (List.mem_of_getElem? (i := 72) (by decide +kernel))) (by decide +kernel)) ⟨rfl, by decide +kernel, by decide +kernel, by decide +kernel⟩
def rm_X11_factOf : Room := { frames := 4, cells := 0, slots := 0, locals := 87 }
def f_X11_factOf (τ : gτ) (x0 : Nat) (x1 : Int32) (x2 : Int32) (x3 : Int32) (G : gG) : Option (Int32) :=
  if x1 = 0 then ((f_X11_weakOf τ x0 x3 G).bind fun v1 =>
  some (v1))
  else if x1 = 1 then ((f_X11_strongOf τ x0 x3 G).bind fun v2 =>
  some (v2))
  else if x1 = 2 then ((f_X11_rotOf τ x0 x3 G).bind fun v3 =>
  some (v3))
  else if x1 = 3 then ((f_X11_reignsOf τ x0 x3 G).bind fun v4 =>
  some (v4))
  else if x1 = 4 then ((f_X11_of τ x0 x3 (4 : Int32) G).bind fun v5 =>
  some (v5))
  else if x1 = 5 then ((f_X11_of τ x0 x3 (5 : Int32) G).bind fun v6 =>
  some (v6))
  else if x1 = 6 then ((f_X11_of τ x0 x3 (3 : Int32) G).bind fun v7 =>
  some (v7))
  else if x1 = 7 then ((f_X11_of τ x0 x3 (7 : Int32) G).bind fun v8 =>
  some (v8))
  else if x1 = 8 then ((f_X11_of τ x0 x3 (9 : Int32) G).bind fun v9 =>
  some (v9))
  else if x1 = 9 then ((f_X11_of τ x0 x3 (6 : Int32) G).bind fun v10 =>
  some (v10))
  else if x1 = 10 then ((gr G 11 1 x0).bind fun a11 =>
  gchk (gIn (5 : Int32) (gn τ a11)) <|
  if ((ge G a11 (Int32.toNatClampNeg (5 : Int32))) - (ge G a11 (Int32.toNatClampNeg (5 : Int32))) / (4 : Int32) * (4 : Int32)) = (3 : Int32) then (some (1))
  else (some (0)))
  else (some (x2))
set_option maxHeartbeats 4000000 in
set_option maxRecDepth 100000 in
theorem c_X11_factOf (l : Launch) (X : gX) (τ : gτ) (x0 : Nat) (x1 : Int32) (x2 : Int32) (x3 : Int32) (G : gG) (h0 : gK τ x0 11) {r : Int32}  (h : f_X11_factOf τ x0 x1 x2 x3 G = some r) : gM l X τ yX11_factOf cX11_factOf 4 (some .int) rm_X11_factOf [.ref x0, .int x1, .int x2, .int x3] G (some (.int r)) G := by
  refine g_body (by decide +kernel) (Nat.le_of_ble_eq_true rfl) ?_
  intro p e s m args below meth c ls fx hr hw hl
  have fx : gFx X p s m args meth c cX11_factOf 4 RX11 := fx
  have hl : lv_has ls 4 [(0, .ref x0), (1, .int x1), (2, .int x2), (3, .int x3)] := hl
  have hok : gOk (f_X11_factOf τ x0 x1 x2 x3 G) (fun q => q = r) := ⟨_, h, rfl⟩
  unfold f_X11_factOf at hok
  show W p l e rm_X11_factOf s m args below meth c s.heap [] 0 0 (MQ below (gQ X τ (some (.int r)) G) args s 0 0 (gFree X)) _
  refine lv_iload_n fx.1 fx.2.1 dX11_factOf_0 rfl (lv_at hl 1 rfl) ?_
  by_cases hc0 : x1 = 0
  · have hok := gOk_t hok hc0
    refine lv_tableIn (tgt := 60) fx.1 fx.2.1 dX11_factOf_1 (by rw [hc0]; decide) (by rw [hc0]; decide) (by rw [hc0]; rfl) (by decide) ?_
    refine lv_aload_n fx.1 fx.2.1 dX11_factOf_60 rfl (lv_at hl 0 rfl) ?_
    refine lv_iload_n fx.1 fx.2.1 dX11_factOf_61 rfl (lv_at hl 3 rfl) ?_
    obtain ⟨v1, hf, hok⟩ := gOk_bind hok
    refine g_callV0 (κ := 11) fx hw (c_X11_weakOf l X τ x0 x3 G h0 hf) lv_RX11_279 ⟨rfl, rfl⟩ rfl rfl h0 rfl hl.1 rfl ⟨Nat.le_of_ble_eq_true rfl, Nat.le_of_ble_eq_true rfl⟩ (Nat.le_of_ble_eq_true rfl) ⟨Nat.le_of_ble_eq_true rfl, Nat.le_of_ble_eq_true rfl⟩ dX11_factOf_62 (fun H locs hw => ?_)
    cases gOk_some hok
    exact g_iret fx hw hr dX11_factOf_65
  have hok := gOk_f hok hc0
  by_cases hc1 : x1 = 1
  · have hok := gOk_t hok hc1
    refine lv_tableIn (tgt := 66) fx.1 fx.2.1 dX11_factOf_1 (by rw [hc1]; decide) (by rw [hc1]; decide) (by rw [hc1]; rfl) (by decide) ?_
    refine lv_aload_n fx.1 fx.2.1 dX11_factOf_66 rfl (lv_at hl 0 rfl) ?_
    refine lv_iload_n fx.1 fx.2.1 dX11_factOf_67 rfl (lv_at hl 3 rfl) ?_
    obtain ⟨v2, hf, hok⟩ := gOk_bind hok
    refine g_callV0 (κ := 11) fx hw (c_X11_strongOf l X τ x0 x3 G h0 hf) lv_RX11_282 ⟨rfl, rfl⟩ rfl rfl h0 rfl hl.1 rfl ⟨Nat.le_of_ble_eq_true rfl, Nat.le_of_ble_eq_true rfl⟩ (Nat.le_of_ble_eq_true rfl) ⟨Nat.le_of_ble_eq_true rfl, Nat.le_of_ble_eq_true rfl⟩ dX11_factOf_68 (fun H locs hw => ?_)
    cases gOk_some hok
    exact g_iret fx hw hr dX11_factOf_71
  have hok := gOk_f hok hc1
  by_cases hc2 : x1 = 2
  · have hok := gOk_t hok hc2
    refine lv_tableIn (tgt := 72) fx.1 fx.2.1 dX11_factOf_1 (by rw [hc2]; decide) (by rw [hc2]; decide) (by rw [hc2]; rfl) (by decide) ?_
    refine lv_aload_n fx.1 fx.2.1 dX11_factOf_72 rfl (lv_at hl 0 rfl) ?_
    refine lv_iload_n fx.1 fx.2.1 dX11_factOf_73 rfl (lv_at hl 3 rfl) ?_
    obtain ⟨v3, hf, hok⟩ := gOk_bind hok
    refine g_callV0 (κ := 11) fx hw (c_X11_rotOf l X τ x0 x3 G h0 hf) lv_RX11_285 ⟨rfl, rfl⟩ rfl rfl h0 rfl hl.1 rfl ⟨Nat.le_of_ble_eq_true rfl, Nat.le_of_ble_eq_true rfl⟩ (Nat.le_of_ble_eq_true rfl) ⟨Nat.le_of_ble_eq_true rfl, Nat.le_of_ble_eq_true rfl⟩ dX11_factOf_74 (fun H locs hw => ?_)
    cases gOk_some hok
    exact g_iret fx hw hr dX11_factOf_77
  have hok := gOk_f hok hc2
  by_cases hc3 : x1 = 3
  · have hok := gOk_t hok hc3
    refine lv_tableIn (tgt := 78) fx.1 fx.2.1 dX11_factOf_1 (by rw [hc3]; decide) (by rw [hc3]; decide) (by rw [hc3]; rfl) (by decide) ?_
    refine lv_aload_n fx.1 fx.2.1 dX11_factOf_78 rfl (lv_at hl 0 rfl) ?_
    refine lv_iload_n fx.1 fx.2.1 dX11_factOf_79 rfl (lv_at hl 3 rfl) ?_
    obtain ⟨v4, hf, hok⟩ := gOk_bind hok
    refine g_callV0 (κ := 11) fx hw (c_X11_reignsOf l X τ x0 x3 G h0 hf) lv_RX11_288 ⟨rfl, rfl⟩ rfl rfl h0 rfl hl.1 rfl ⟨Nat.le_of_ble_eq_true rfl, Nat.le_of_ble_eq_true rfl⟩ (Nat.le_of_ble_eq_true rfl) ⟨Nat.le_of_ble_eq_true rfl, Nat.le_of_ble_eq_true rfl⟩ dX11_factOf_80 (fun H locs hw => ?_)
    cases gOk_some hok
    exact g_iret fx hw hr dX11_factOf_83
  have hok := gOk_f hok hc3
  by_cases hc4 : x1 = 4
  · have hok := gOk_t hok hc4
    refine lv_tableIn (tgt := 84) fx.1 fx.2.1 dX11_factOf_1 (by rw [hc4]; decide) (by rw [hc4]; decide) (by rw [hc4]; rfl) (by decide) ?_
    refine lv_aload_n fx.1 fx.2.1 dX11_factOf_84 rfl (lv_at hl 0 rfl) ?_
    refine lv_iload_n fx.1 fx.2.1 dX11_factOf_85 rfl (lv_at hl 3 rfl) ?_
    refine lv_iconst (v := 4) fx.1 fx.2.1 dX11_factOf_86 (by decide) ?_
    obtain ⟨v5, hf, hok⟩ := gOk_bind hok
    refine g_callV0 (κ := 11) fx hw (c_X11_of l X τ x0 x3 (4 : Int32) G h0 hf) lv_RX11_62 ⟨rfl, rfl⟩ rfl rfl h0 rfl hl.1 rfl ⟨Nat.le_of_ble_eq_true rfl, Nat.le_of_ble_eq_true rfl⟩ (Nat.le_of_ble_eq_true rfl) ⟨Nat.le_of_ble_eq_true rfl, Nat.le_of_ble_eq_true rfl⟩ dX11_factOf_87 (fun H locs hw => ?_)
    cases gOk_some hok
    exact g_iret fx hw hr dX11_factOf_90
  have hok := gOk_f hok hc4
  by_cases hc5 : x1 = 5
  · have hok := gOk_t hok hc5
    refine lv_tableIn (tgt := 91) fx.1 fx.2.1 dX11_factOf_1 (by rw [hc5]; decide) (by rw [hc5]; decide) (by rw [hc5]; rfl) (by decide) ?_
    refine lv_aload_n fx.1 fx.2.1 dX11_factOf_91 rfl (lv_at hl 0 rfl) ?_
    refine lv_iload_n fx.1 fx.2.1 dX11_factOf_92 rfl (lv_at hl 3 rfl) ?_
    refine lv_iconst (v := 5) fx.1 fx.2.1 dX11_factOf_93 (by decide) ?_
    obtain ⟨v6, hf, hok⟩ := gOk_bind hok
    refine g_callV0 (κ := 11) fx hw (c_X11_of l X τ x0 x3 (5 : Int32) G h0 hf) lv_RX11_62 ⟨rfl, rfl⟩ rfl rfl h0 rfl hl.1 rfl ⟨Nat.le_of_ble_eq_true rfl, Nat.le_of_ble_eq_true rfl⟩ (Nat.le_of_ble_eq_true rfl) ⟨Nat.le_of_ble_eq_true rfl, Nat.le_of_ble_eq_true rfl⟩ dX11_factOf_94 (fun H locs hw => ?_)
    cases gOk_some hok
    exact g_iret fx hw hr dX11_factOf_97
  have hok := gOk_f hok hc5
  by_cases hc6 : x1 = 6
  · have hok := gOk_t hok hc6
    refine lv_tableIn (tgt := 98) fx.1 fx.2.1 dX11_factOf_1 (by rw [hc6]; decide) (by rw [hc6]; decide) (by rw [hc6]; rfl) (by decide) ?_
    refine lv_aload_n fx.1 fx.2.1 dX11_factOf_98 rfl (lv_at hl 0 rfl) ?_
    refine lv_iload_n fx.1 fx.2.1 dX11_factOf_99 rfl (lv_at hl 3 rfl) ?_
    refine lv_iconst (v := 3) fx.1 fx.2.1 dX11_factOf_100 (by decide) ?_
    obtain ⟨v7, hf, hok⟩ := gOk_bind hok
    refine g_callV0 (κ := 11) fx hw (c_X11_of l X τ x0 x3 (3 : Int32) G h0 hf) lv_RX11_62 ⟨rfl, rfl⟩ rfl rfl h0 rfl hl.1 rfl ⟨Nat.le_of_ble_eq_true rfl, Nat.le_of_ble_eq_true rfl⟩ (Nat.le_of_ble_eq_true rfl) ⟨Nat.le_of_ble_eq_true rfl, Nat.le_of_ble_eq_true rfl⟩ dX11_factOf_101 (fun H locs hw => ?_)
    cases gOk_some hok
    exact g_iret fx hw hr dX11_factOf_104
  have hok := gOk_f hok hc6
  by_cases hc7 : x1 = 7
  · have hok := gOk_t hok hc7
    refine lv_tableIn (tgt := 105) fx.1 fx.2.1 dX11_factOf_1 (by rw [hc7]; decide) (by rw [hc7]; decide) (by rw [hc7]; rfl) (by decide) ?_
    refine lv_aload_n fx.1 fx.2.1 dX11_factOf_105 rfl (lv_at hl 0 rfl) ?_
    refine lv_iload_n fx.1 fx.2.1 dX11_factOf_106 rfl (lv_at hl 3 rfl) ?_
    refine lv_bipush (v := 7) fx.1 fx.2.1 dX11_factOf_107 (by decide) ?_
    obtain ⟨v8, hf, hok⟩ := gOk_bind hok
    refine g_callV0 (κ := 11) fx hw (c_X11_of l X τ x0 x3 (7 : Int32) G h0 hf) lv_RX11_62 ⟨rfl, rfl⟩ rfl rfl h0 rfl hl.1 rfl ⟨Nat.le_of_ble_eq_true rfl, Nat.le_of_ble_eq_true rfl⟩ (Nat.le_of_ble_eq_true rfl) ⟨Nat.le_of_ble_eq_true rfl, Nat.le_of_ble_eq_true rfl⟩ dX11_factOf_109 (fun H locs hw => ?_)
    cases gOk_some hok
    exact g_iret fx hw hr dX11_factOf_112
  have hok := gOk_f hok hc7
  by_cases hc8 : x1 = 8
  · have hok := gOk_t hok hc8
    refine lv_tableIn (tgt := 113) fx.1 fx.2.1 dX11_factOf_1 (by rw [hc8]; decide) (by rw [hc8]; decide) (by rw [hc8]; rfl) (by decide) ?_
    refine lv_aload_n fx.1 fx.2.1 dX11_factOf_113 rfl (lv_at hl 0 rfl) ?_
    refine lv_iload_n fx.1 fx.2.1 dX11_factOf_114 rfl (lv_at hl 3 rfl) ?_
    refine lv_bipush (v := 9) fx.1 fx.2.1 dX11_factOf_115 (by decide) ?_
    obtain ⟨v9, hf, hok⟩ := gOk_bind hok
    refine g_callV0 (κ := 11) fx hw (c_X11_of l X τ x0 x3 (9 : Int32) G h0 hf) lv_RX11_62 ⟨rfl, rfl⟩ rfl rfl h0 rfl hl.1 rfl ⟨Nat.le_of_ble_eq_true rfl, Nat.le_of_ble_eq_true rfl⟩ (Nat.le_of_ble_eq_true rfl) ⟨Nat.le_of_ble_eq_true rfl, Nat.le_of_ble_eq_true rfl⟩ dX11_factOf_117 (fun H locs hw => ?_)
    cases gOk_some hok
    exact g_iret fx hw hr dX11_factOf_120
  have hok := gOk_f hok hc8
  by_cases hc9 : x1 = 9
  · have hok := gOk_t hok hc9
    refine lv_tableIn (tgt := 121) fx.1 fx.2.1 dX11_factOf_1 (by rw [hc9]; decide) (by rw [hc9]; decide) (by rw [hc9]; rfl) (by decide) ?_
    refine lv_aload_n fx.1 fx.2.1 dX11_factOf_121 rfl (lv_at hl 0 rfl) ?_
    refine lv_iload_n fx.1 fx.2.1 dX11_factOf_122 rfl (lv_at hl 3 rfl) ?_
    refine lv_bipush (v := 6) fx.1 fx.2.1 dX11_factOf_123 (by decide) ?_
    obtain ⟨v10, hf, hok⟩ := gOk_bind hok
    refine g_callV0 (κ := 11) fx hw (c_X11_of l X τ x0 x3 (6 : Int32) G h0 hf) lv_RX11_62 ⟨rfl, rfl⟩ rfl rfl h0 rfl hl.1 rfl ⟨Nat.le_of_ble_eq_true rfl, Nat.le_of_ble_eq_true rfl⟩ (Nat.le_of_ble_eq_true rfl) ⟨Nat.le_of_ble_eq_true rfl, Nat.le_of_ble_eq_true rfl⟩ dX11_factOf_125 (fun H locs hw => ?_)
    cases gOk_some hok
    exact g_iret fx hw hr dX11_factOf_128
  have hok := gOk_f hok hc9
  by_cases hc10 : x1 = 10
  · have hok := gOk_t hok hc10
    refine lv_tableIn (tgt := 129) fx.1 fx.2.1 dX11_factOf_1 (by rw [hc10]; decide) (by rw [hc10]; decide) (by rw [hc10]; rfl) (by decide) ?_
    refine lv_aload_n fx.1 fx.2.1 dX11_factOf_129 rfl (lv_at hl 0 rfl) ?_
    refine g_getr fx hw h0 lf_RX11_13 rfl dX11_factOf_130 hok (fun a11 h_a11 hok => ?_)
    refine lv_iconst (v := 5) fx.1 fx.2.1 dX11_factOf_133 (by decide) ?_
    refine g_iald fx hw h_a11 dX11_factOf_134 hok (fun hok => ?_)
    refine lv_iconst (v := 4) fx.1 fx.2.1 dX11_factOf_135 (by decide) ?_
    refine lv_irem fx.1 fx.2.1 dX11_factOf_136 (by decide) ?_
    refine lv_iconst (v := 3) fx.1 fx.2.1 dX11_factOf_137 (by decide) ?_
    refine g_icmp_ne (tgt := 145) fx dX11_factOf_138 (by decide) hok (fun hok => ?_) (fun hok => ?_)
    · refine lv_iconst (v := 1) fx.1 fx.2.1 dX11_factOf_141 (by decide) ?_
      refine lv_goto (tgt := 146) fx.1 fx.2.1 dX11_factOf_142 (by decide) ?_
      cases gOk_some hok
      exact g_iret fx hw hr dX11_factOf_146
    · refine lv_iconst (v := 0) fx.1 fx.2.1 dX11_factOf_145 (by decide) ?_
      cases gOk_some hok
      exact g_iret fx hw hr dX11_factOf_146
  have hok := gOk_f hok hc10
  refine lv_tableOut (tgt := 147) fx.1 fx.2.1 dX11_factOf_1 (gOut 0 11 (by decide) (by decide) (by decide) (by decide) (fun j hj => ?_)) (by decide) ?_
  · match j, hj with
    | 0, _ => exact hc0
    | 1, _ => exact hc1
    | 2, _ => exact hc2
    | 3, _ => exact hc3
    | 4, _ => exact hc4
    | 5, _ => exact hc5
    | 6, _ => exact hc6
    | 7, _ => exact hc7
    | 8, _ => exact hc8
    | 9, _ => exact hc9
    | 10, _ => exact hc10
  · refine lv_iload_n fx.1 fx.2.1 dX11_factOf_147 rfl (lv_at hl 2 rfl) ?_
    cases gOk_some hok
    exact g_iret fx hw hr dX11_factOf_148
theorem dX11_holdsLine_0 : decode cX11_holdsLine 0 = .ok (.iconst 0, 1) := by decide +kernel
theorem dX11_holdsLine_1 : decode cX11_holdsLine 1 = .ok (.istore_n 3, 1) := by decide +kernel
theorem dX11_holdsLine_2 : decode cX11_holdsLine 2 = .ok (.sipush 468, 3) := by decide +kernel
theorem dX11_holdsLine_5 : decode cX11_holdsLine 5 = .ok (.iconst 4, 1) := by decide +kernel
theorem dX11_holdsLine_6 : decode cX11_holdsLine 6 = .ok (.iload_n 1, 1) := by decide +kernel
theorem dX11_holdsLine_7 : decode cX11_holdsLine 7 = .ok (.imul, 1) := by decide +kernel
theorem dX11_holdsLine_8 : decode cX11_holdsLine 8 = .ok (.iadd, 1) := by decide +kernel
theorem dX11_holdsLine_9 : decode cX11_holdsLine 9 = .ok (.istore 4, 2) := by decide +kernel
theorem dX11_holdsLine_11 : decode cX11_holdsLine 11 = .ok (.aload_n 0, 1) := by decide +kernel
theorem dX11_holdsLine_12 : decode cX11_holdsLine 12 = .ok (.getfield 13, 3) := by decide +kernel
theorem dX11_holdsLine_15 : decode cX11_holdsLine 15 = .ok (.iload 4, 2) := by decide +kernel
theorem dX11_holdsLine_17 : decode cX11_holdsLine 17 = .ok (.iconst 2, 1) := by decide +kernel
theorem dX11_holdsLine_18 : decode cX11_holdsLine 18 = .ok (.iadd, 1) := by decide +kernel
theorem dX11_holdsLine_19 : decode cX11_holdsLine 19 = .ok (.iaload, 1) := by decide +kernel
theorem dX11_holdsLine_20 : decode cX11_holdsLine 20 = .ok (.istore 5, 2) := by decide +kernel
theorem dX11_holdsLine_22 : decode cX11_holdsLine 22 = .ok (.iload 5, 2) := by decide +kernel
theorem dX11_holdsLine_24 : decode cX11_holdsLine 24 = .ok (.aload_n 0, 1) := by decide +kernel
theorem dX11_holdsLine_25 : decode cX11_holdsLine 25 = .ok (.getfield 13, 3) := by decide +kernel
theorem dX11_holdsLine_28 : decode cX11_holdsLine 28 = .ok (.iload 4, 2) := by decide +kernel
theorem dX11_holdsLine_30 : decode cX11_holdsLine 30 = .ok (.iconst 3, 1) := by decide +kernel
theorem dX11_holdsLine_31 : decode cX11_holdsLine 31 = .ok (.iadd, 1) := by decide +kernel
theorem dX11_holdsLine_32 : decode cX11_holdsLine 32 = .ok (.iaload, 1) := by decide +kernel
theorem dX11_holdsLine_33 : decode cX11_holdsLine 33 = .ok (.if_icmp .ge 230, 3) := by decide +kernel
theorem dX11_holdsLine_36 : decode cX11_holdsLine 36 = .ok (.aload_n 0, 1) := by decide +kernel
theorem dX11_holdsLine_37 : decode cX11_holdsLine 37 = .ok (.getfield 13, 3) := by decide +kernel
theorem dX11_holdsLine_40 : decode cX11_holdsLine 40 = .ok (.sipush 516, 3) := by decide +kernel
theorem dX11_holdsLine_43 : decode cX11_holdsLine 43 = .ok (.iconst 2, 1) := by decide +kernel
theorem dX11_holdsLine_44 : decode cX11_holdsLine 44 = .ok (.iload 5, 2) := by decide +kernel
theorem dX11_holdsLine_46 : decode cX11_holdsLine 46 = .ok (.imul, 1) := by decide +kernel
theorem dX11_holdsLine_47 : decode cX11_holdsLine 47 = .ok (.iadd, 1) := by decide +kernel
theorem dX11_holdsLine_48 : decode cX11_holdsLine 48 = .ok (.iaload, 1) := by decide +kernel
theorem dX11_holdsLine_49 : decode cX11_holdsLine 49 = .ok (.istore 6, 2) := by decide +kernel
theorem dX11_holdsLine_51 : decode cX11_holdsLine 51 = .ok (.iload 6, 2) := by decide +kernel
theorem dX11_holdsLine_53 : decode cX11_holdsLine 53 = .ok (.bipush 11, 2) := by decide +kernel
theorem dX11_holdsLine_55 : decode cX11_holdsLine 55 = .ok (.if_icmp .gt 37, 3) := by decide +kernel
theorem dX11_holdsLine_58 : decode cX11_holdsLine 58 = .ok (.aload_n 0, 1) := by decide +kernel
theorem dX11_holdsLine_59 : decode cX11_holdsLine 59 = .ok (.getfield 39, 3) := by decide +kernel
theorem dX11_holdsLine_62 : decode cX11_holdsLine 62 = .ok (.iload_n 3, 1) := by decide +kernel
theorem dX11_holdsLine_63 : decode cX11_holdsLine 63 = .ok (.aload_n 0, 1) := by decide +kernel
theorem dX11_holdsLine_64 : decode cX11_holdsLine 64 = .ok (.iload 6, 2) := by decide +kernel
theorem dX11_holdsLine_66 : decode cX11_holdsLine 66 = .ok (.aload_n 0, 1) := by decide +kernel
theorem dX11_holdsLine_67 : decode cX11_holdsLine 67 = .ok (.getfield 13, 3) := by decide +kernel
theorem dX11_holdsLine_70 : decode cX11_holdsLine 70 = .ok (.sipush 516, 3) := by decide +kernel
theorem dX11_holdsLine_73 : decode cX11_holdsLine 73 = .ok (.iconst 2, 1) := by decide +kernel
theorem dX11_holdsLine_74 : decode cX11_holdsLine 74 = .ok (.iload 5, 2) := by decide +kernel
theorem dX11_holdsLine_76 : decode cX11_holdsLine 76 = .ok (.imul, 1) := by decide +kernel
theorem dX11_holdsLine_77 : decode cX11_holdsLine 77 = .ok (.iadd, 1) := by decide +kernel
theorem dX11_holdsLine_78 : decode cX11_holdsLine 78 = .ok (.iconst 1, 1) := by decide +kernel
theorem dX11_holdsLine_79 : decode cX11_holdsLine 79 = .ok (.iadd, 1) := by decide +kernel
theorem dX11_holdsLine_80 : decode cX11_holdsLine 80 = .ok (.iaload, 1) := by decide +kernel
theorem dX11_holdsLine_81 : decode cX11_holdsLine 81 = .ok (.iload_n 2, 1) := by decide +kernel
theorem dX11_holdsLine_82 : decode cX11_holdsLine 82 = .ok (.invokevirtual 291, 3) := by decide +kernel
theorem dX11_holdsLine_85 : decode cX11_holdsLine 85 = .ok (.iastore, 1) := by decide +kernel
theorem dX11_holdsLine_86 : decode cX11_holdsLine 86 = .ok (.iinc 3 1, 3) := by decide +kernel
theorem dX11_holdsLine_89 : decode cX11_holdsLine 89 = .ok (.goto 168, 3) := by decide +kernel
theorem dX11_holdsLine_92 : decode cX11_holdsLine 92 = .ok (.iload 6, 2) := by decide +kernel
theorem dX11_holdsLine_94 : decode cX11_holdsLine 94 = .ok (.bipush 15, 2) := by decide +kernel
theorem dX11_holdsLine_96 : decode cX11_holdsLine 96 = .ok (.if_icmp .ne 24, 3) := by decide +kernel
theorem dX11_holdsLine_99 : decode cX11_holdsLine 99 = .ok (.aload_n 0, 1) := by decide +kernel
theorem dX11_holdsLine_100 : decode cX11_holdsLine 100 = .ok (.getfield 39, 3) := by decide +kernel
theorem dX11_holdsLine_103 : decode cX11_holdsLine 103 = .ok (.iload_n 3, 1) := by decide +kernel
theorem dX11_holdsLine_104 : decode cX11_holdsLine 104 = .ok (.iconst 1, 1) := by decide +kernel
theorem dX11_holdsLine_105 : decode cX11_holdsLine 105 = .ok (.isub, 1) := by decide +kernel
theorem dX11_holdsLine_106 : decode cX11_holdsLine 106 = .ok (.iconst 1, 1) := by decide +kernel
theorem dX11_holdsLine_107 : decode cX11_holdsLine 107 = .ok (.aload_n 0, 1) := by decide +kernel
theorem dX11_holdsLine_108 : decode cX11_holdsLine 108 = .ok (.getfield 39, 3) := by decide +kernel
theorem dX11_holdsLine_111 : decode cX11_holdsLine 111 = .ok (.iload_n 3, 1) := by decide +kernel
theorem dX11_holdsLine_112 : decode cX11_holdsLine 112 = .ok (.iconst 1, 1) := by decide +kernel
theorem dX11_holdsLine_113 : decode cX11_holdsLine 113 = .ok (.isub, 1) := by decide +kernel
theorem dX11_holdsLine_114 : decode cX11_holdsLine 114 = .ok (.iaload, 1) := by decide +kernel
theorem dX11_holdsLine_115 : decode cX11_holdsLine 115 = .ok (.isub, 1) := by decide +kernel
theorem dX11_holdsLine_116 : decode cX11_holdsLine 116 = .ok (.iastore, 1) := by decide +kernel
theorem dX11_holdsLine_117 : decode cX11_holdsLine 117 = .ok (.goto 140, 3) := by decide +kernel
theorem dX11_holdsLine_120 : decode cX11_holdsLine 120 = .ok (.iinc 3 (-1), 3) := by decide +kernel
theorem dX11_holdsLine_123 : decode cX11_holdsLine 123 = .ok (.aload_n 0, 1) := by decide +kernel
theorem dX11_holdsLine_124 : decode cX11_holdsLine 124 = .ok (.getfield 39, 3) := by decide +kernel
theorem dX11_holdsLine_127 : decode cX11_holdsLine 127 = .ok (.iload_n 3, 1) := by decide +kernel
theorem dX11_holdsLine_128 : decode cX11_holdsLine 128 = .ok (.iconst 1, 1) := by decide +kernel
theorem dX11_holdsLine_129 : decode cX11_holdsLine 129 = .ok (.isub, 1) := by decide +kernel
theorem dX11_holdsLine_130 : decode cX11_holdsLine 130 = .ok (.iaload, 1) := by decide +kernel
theorem dX11_holdsLine_131 : decode cX11_holdsLine 131 = .ok (.istore 7, 2) := by decide +kernel
theorem dX11_holdsLine_133 : decode cX11_holdsLine 133 = .ok (.aload_n 0, 1) := by decide +kernel
theorem dX11_holdsLine_134 : decode cX11_holdsLine 134 = .ok (.getfield 39, 3) := by decide +kernel
theorem dX11_holdsLine_137 : decode cX11_holdsLine 137 = .ok (.iload_n 3, 1) := by decide +kernel
theorem dX11_holdsLine_138 : decode cX11_holdsLine 138 = .ok (.iaload, 1) := by decide +kernel
theorem dX11_holdsLine_139 : decode cX11_holdsLine 139 = .ok (.istore 8, 2) := by decide +kernel
theorem dX11_holdsLine_141 : decode cX11_holdsLine 141 = .ok (.iload 6, 2) := by decide +kernel
theorem dX11_holdsLine_143 : decode cX11_holdsLine 143 = .ok (.bipush 13, 2) := by decide +kernel
theorem dX11_holdsLine_145 : decode cX11_holdsLine 145 = .ok (.if_icmp .ne 18, 3) := by decide +kernel
theorem dX11_holdsLine_148 : decode cX11_holdsLine 148 = .ok (.iload 7, 2) := by decide +kernel
theorem dX11_holdsLine_150 : decode cX11_holdsLine 150 = .ok (.iload 8, 2) := by decide +kernel
theorem dX11_holdsLine_152 : decode cX11_holdsLine 152 = .ok (.if_icmp .ge 7, 3) := by decide +kernel
theorem dX11_holdsLine_155 : decode cX11_holdsLine 155 = .ok (.iconst 1, 1) := by decide +kernel
theorem dX11_holdsLine_156 : decode cX11_holdsLine 156 = .ok (.goto 66, 3) := by decide +kernel
theorem dX11_holdsLine_159 : decode cX11_holdsLine 159 = .ok (.iconst 0, 1) := by decide +kernel
theorem dX11_holdsLine_160 : decode cX11_holdsLine 160 = .ok (.goto 62, 3) := by decide +kernel
theorem dX11_holdsLine_163 : decode cX11_holdsLine 163 = .ok (.iload 6, 2) := by decide +kernel
theorem dX11_holdsLine_165 : decode cX11_holdsLine 165 = .ok (.bipush 14, 2) := by decide +kernel
theorem dX11_holdsLine_167 : decode cX11_holdsLine 167 = .ok (.if_icmp .ne 18, 3) := by decide +kernel
theorem dX11_holdsLine_170 : decode cX11_holdsLine 170 = .ok (.iload 7, 2) := by decide +kernel
theorem dX11_holdsLine_172 : decode cX11_holdsLine 172 = .ok (.iload 8, 2) := by decide +kernel
theorem dX11_holdsLine_174 : decode cX11_holdsLine 174 = .ok (.if_icmp .le 7, 3) := by decide +kernel
theorem dX11_holdsLine_177 : decode cX11_holdsLine 177 = .ok (.iconst 1, 1) := by decide +kernel
theorem dX11_holdsLine_178 : decode cX11_holdsLine 178 = .ok (.goto 44, 3) := by decide +kernel
theorem dX11_holdsLine_181 : decode cX11_holdsLine 181 = .ok (.iconst 0, 1) := by decide +kernel
theorem dX11_holdsLine_182 : decode cX11_holdsLine 182 = .ok (.goto 40, 3) := by decide +kernel
theorem dX11_holdsLine_185 : decode cX11_holdsLine 185 = .ok (.iload 6, 2) := by decide +kernel
theorem dX11_holdsLine_187 : decode cX11_holdsLine 187 = .ok (.bipush 16, 2) := by decide +kernel
theorem dX11_holdsLine_189 : decode cX11_holdsLine 189 = .ok (.if_icmp .ne 20, 3) := by decide +kernel
theorem dX11_holdsLine_192 : decode cX11_holdsLine 192 = .ok (.iload 7, 2) := by decide +kernel
theorem dX11_holdsLine_194 : decode cX11_holdsLine 194 = .ok (.iload 8, 2) := by decide +kernel
theorem dX11_holdsLine_196 : decode cX11_holdsLine 196 = .ok (.iadd, 1) := by decide +kernel
theorem dX11_holdsLine_197 : decode cX11_holdsLine 197 = .ok (.iconst 2, 1) := by decide +kernel
theorem dX11_holdsLine_198 : decode cX11_holdsLine 198 = .ok (.if_icmp .ne 7, 3) := by decide +kernel
theorem dX11_holdsLine_201 : decode cX11_holdsLine 201 = .ok (.iconst 1, 1) := by decide +kernel
theorem dX11_holdsLine_202 : decode cX11_holdsLine 202 = .ok (.goto 20, 3) := by decide +kernel
theorem dX11_holdsLine_205 : decode cX11_holdsLine 205 = .ok (.iconst 0, 1) := by decide +kernel
theorem dX11_holdsLine_206 : decode cX11_holdsLine 206 = .ok (.goto 16, 3) := by decide +kernel
theorem dX11_holdsLine_209 : decode cX11_holdsLine 209 = .ok (.iload 7, 2) := by decide +kernel
theorem dX11_holdsLine_211 : decode cX11_holdsLine 211 = .ok (.iload 8, 2) := by decide +kernel
theorem dX11_holdsLine_213 : decode cX11_holdsLine 213 = .ok (.iadd, 1) := by decide +kernel
theorem dX11_holdsLine_214 : decode cX11_holdsLine 214 = .ok (.ifCond .le 7, 3) := by decide +kernel
theorem dX11_holdsLine_217 : decode cX11_holdsLine 217 = .ok (.iconst 1, 1) := by decide +kernel
theorem dX11_holdsLine_218 : decode cX11_holdsLine 218 = .ok (.goto 4, 3) := by decide +kernel
theorem dX11_holdsLine_221 : decode cX11_holdsLine 221 = .ok (.iconst 0, 1) := by decide +kernel
theorem dX11_holdsLine_222 : decode cX11_holdsLine 222 = .ok (.istore 9, 2) := by decide +kernel
theorem dX11_holdsLine_224 : decode cX11_holdsLine 224 = .ok (.aload_n 0, 1) := by decide +kernel
theorem dX11_holdsLine_225 : decode cX11_holdsLine 225 = .ok (.getfield 39, 3) := by decide +kernel
theorem dX11_holdsLine_228 : decode cX11_holdsLine 228 = .ok (.iload_n 3, 1) := by decide +kernel
theorem dX11_holdsLine_229 : decode cX11_holdsLine 229 = .ok (.iconst 1, 1) := by decide +kernel
theorem dX11_holdsLine_230 : decode cX11_holdsLine 230 = .ok (.isub, 1) := by decide +kernel
theorem dX11_holdsLine_231 : decode cX11_holdsLine 231 = .ok (.iload 6, 2) := by decide +kernel
theorem dX11_holdsLine_233 : decode cX11_holdsLine 233 = .ok (.bipush 12, 2) := by decide +kernel
theorem dX11_holdsLine_235 : decode cX11_holdsLine 235 = .ok (.if_icmp .ne 11, 3) := by decide +kernel
theorem dX11_holdsLine_238 : decode cX11_holdsLine 238 = .ok (.iload 7, 2) := by decide +kernel
theorem dX11_holdsLine_240 : decode cX11_holdsLine 240 = .ok (.iload 8, 2) := by decide +kernel
theorem dX11_holdsLine_242 : decode cX11_holdsLine 242 = .ok (.iadd, 1) := by decide +kernel
theorem dX11_holdsLine_243 : decode cX11_holdsLine 243 = .ok (.goto 13, 3) := by decide +kernel
theorem dX11_holdsLine_246 : decode cX11_holdsLine 246 = .ok (.iload 9, 2) := by decide +kernel
theorem dX11_holdsLine_248 : decode cX11_holdsLine 248 = .ok (.ifCond .eq 7, 3) := by decide +kernel
theorem dX11_holdsLine_251 : decode cX11_holdsLine 251 = .ok (.iconst 1, 1) := by decide +kernel
theorem dX11_holdsLine_252 : decode cX11_holdsLine 252 = .ok (.goto 4, 3) := by decide +kernel
theorem dX11_holdsLine_255 : decode cX11_holdsLine 255 = .ok (.iconst 0, 1) := by decide +kernel
theorem dX11_holdsLine_256 : decode cX11_holdsLine 256 = .ok (.iastore, 1) := by decide +kernel
theorem dX11_holdsLine_257 : decode cX11_holdsLine 257 = .ok (.iinc 5 1, 3) := by decide +kernel
theorem dX11_holdsLine_260 : decode cX11_holdsLine 260 = .ok (.goto (-238), 3) := by decide +kernel
theorem dX11_holdsLine_263 : decode cX11_holdsLine 263 = .ok (.iload_n 3, 1) := by decide +kernel
theorem dX11_holdsLine_264 : decode cX11_holdsLine 264 = .ok (.ifCond .eq 13, 3) := by decide +kernel
theorem dX11_holdsLine_267 : decode cX11_holdsLine 267 = .ok (.aload_n 0, 1) := by decide +kernel
theorem dX11_holdsLine_268 : decode cX11_holdsLine 268 = .ok (.getfield 39, 3) := by decide +kernel
theorem dX11_holdsLine_271 : decode cX11_holdsLine 271 = .ok (.iconst 0, 1) := by decide +kernel
theorem dX11_holdsLine_272 : decode cX11_holdsLine 272 = .ok (.iaload, 1) := by decide +kernel
theorem dX11_holdsLine_273 : decode cX11_holdsLine 273 = .ok (.iconst 1, 1) := by decide +kernel
theorem dX11_holdsLine_274 : decode cX11_holdsLine 274 = .ok (.if_icmp .ne 7, 3) := by decide +kernel
theorem dX11_holdsLine_277 : decode cX11_holdsLine 277 = .ok (.iconst 1, 1) := by decide +kernel
theorem dX11_holdsLine_278 : decode cX11_holdsLine 278 = .ok (.goto 4, 3) := by decide +kernel
theorem dX11_holdsLine_281 : decode cX11_holdsLine 281 = .ok (.iconst 0, 1) := by decide +kernel
theorem dX11_holdsLine_282 : decode cX11_holdsLine 282 = .ok (.ireturn, 1) := by decide +kernel
theorem lf_RX11_39 : gLf RX11 39 11 17 := ⟨(RX11, TX11, 20), rfl, by decide, wA_t (wt6 (List.mem_of_getElem? (i := 230) (by decide +kernel))) (by decide +kernel), rfl⟩
theorem lv_RX11_291 : gLv RX11 291 RX11 yX11_factOf cX11_factOf 4 (some .int) 3 := gLv_of (wA_t (wt8 (List.mem_of_getElem? (i := 49) (by decide +kernel))) (by decide +kernel)) (wA_t (wt8 (List.mem_of_getElem? (i := 51) (by decide +kernel))) (by decide +kernel)) (wA_of (List.mem_append_left _ (List.mem_map.mpr ⟨(⟨"YearRopeModel", "factOf", "(III)I"⟩, 20), wp6 (List.mem_of_getElem? (i := 5) (by decide +kernel)), rfl⟩)) (by decide +kernel)) (wA_t (wt1 (List.mem_of_getElem? (i := 12) (by decide +kernel))) (by decide +kernel)) (wA_t (wt8 (List.mem_of_getElem? (i := 52) (by decide +kernel))) (by decide +kernel)) ⟨rfl, by decide +kernel, by decide +kernel, by decide +kernel⟩
def rm_X11_holdsLine : Room := { frames := 5, cells := 0, slots := 0, locals := 110 }
def k_X11_holdsLine_256 (τ : gτ) (n : Nat) (x0 : Nat) (x2 : Int32) (x3 : Int32) (x4 : Int32) (x5 : Int32) (s0 : Nat) (s1 : Int32) (s2 : Int32) (G : gG) : Option ((Int32 × Int32 × gG) ⊕ ((Int32 × gG))) :=
  gchk (gIn s1 (gn τ s0)) <| gLet (gse G s0 (Int32.toNatClampNeg s1) s2) fun G17 =>
  gLet (x5 + 1) fun v18 =>
  some (.inl (x3, v18, G17))
def k_X11_holdsLine_222 (τ : gτ) (n : Nat) (x0 : Nat) (x2 : Int32) (x3 : Int32) (x4 : Int32) (x5 : Int32) (x6 : Int32) (x7 : Int32) (x8 : Int32) (s0 : Int32) (G : gG) : Option ((Int32 × Int32 × gG) ⊕ ((Int32 × gG))) :=
  (gr G 11 17 x0).bind fun a16 =>
  if x6 = (12 : Int32) then (k_X11_holdsLine_256 τ n x0 x2 x3 x4 x5 a16 (x3 - (1 : Int32)) (x7 + x8) G)
  else (if s0 = 0 then (k_X11_holdsLine_256 τ n x0 x2 x3 x4 x5 a16 (x3 - (1 : Int32)) (0 : Int32) G)
  else (k_X11_holdsLine_256 τ n x0 x2 x3 x4 x5 a16 (x3 - (1 : Int32)) (1 : Int32) G))
def b_X11_holdsLine_22 (τ : gτ) (n : Nat) (x0 : Nat) (x2 : Int32) (x3 : Int32) (x4 : Int32) (x5 : Int32) (G : gG) : Option ((Int32 × Int32 × gG) ⊕ ((Int32 × gG))) :=
  (gr G 11 1 x0).bind fun a4 =>
  gchk (gIn (x4 + (3 : Int32)) (gn τ a4)) <|
  if (ge G a4 (Int32.toNatClampNeg (x4 + (3 : Int32)))) ≤ x5 then (some (.inr (x3, G)))
  else ((gr G 11 1 x0).bind fun a5 =>
  gchk (gIn ((516 : Int32) + ((2 : Int32) * x5)) (gn τ a5)) <|
  gLet (ge G a5 (Int32.toNatClampNeg ((516 : Int32) + ((2 : Int32) * x5)))) fun v6 =>
  if (11 : Int32) < v6 then (if v6 = (15 : Int32) then ((gr G 11 17 x0).bind fun a7 =>
  (gr G 11 17 x0).bind fun a8 =>
  gchk (gIn (x3 - (1 : Int32)) (gn τ a8)) <|
  gchk (gIn (x3 - (1 : Int32)) (gn τ a7)) <| gLet (gse G a7 (Int32.toNatClampNeg (x3 - (1 : Int32))) ((1 : Int32) - (ge G a8 (Int32.toNatClampNeg (x3 - (1 : Int32)))))) fun G9 =>
  gLet (x5 + 1) fun v10 =>
  some (.inl (x3, v10, G9)))
  else (gLet (x3 + (-1)) fun v11 =>
  (gr G 11 17 x0).bind fun a12 =>
  gchk (gIn (v11 - (1 : Int32)) (gn τ a12)) <|
  gLet (ge G a12 (Int32.toNatClampNeg (v11 - (1 : Int32)))) fun v13 =>
  (gr G 11 17 x0).bind fun a14 =>
  gchk (gIn v11 (gn τ a14)) <|
  gLet (ge G a14 (Int32.toNatClampNeg v11)) fun v15 =>
  if v6 = (13 : Int32) then (if v15 ≤ v13 then (k_X11_holdsLine_222 τ n x0 x2 v11 x4 x5 v6 v13 v15 (0 : Int32) G)
  else (k_X11_holdsLine_222 τ n x0 x2 v11 x4 x5 v6 v13 v15 (1 : Int32) G))
  else (if v6 = (14 : Int32) then (if v13 ≤ v15 then (k_X11_holdsLine_222 τ n x0 x2 v11 x4 x5 v6 v13 v15 (0 : Int32) G)
  else (k_X11_holdsLine_222 τ n x0 x2 v11 x4 x5 v6 v13 v15 (1 : Int32) G))
  else (if v6 = (16 : Int32) then (if (v13 + v15) = (2 : Int32) then (k_X11_holdsLine_222 τ n x0 x2 v11 x4 x5 v6 v13 v15 (1 : Int32) G)
  else (k_X11_holdsLine_222 τ n x0 x2 v11 x4 x5 v6 v13 v15 (0 : Int32) G))
  else (if (v13 + v15) ≤ 0 then (k_X11_holdsLine_222 τ n x0 x2 v11 x4 x5 v6 v13 v15 (0 : Int32) G)
  else (k_X11_holdsLine_222 τ n x0 x2 v11 x4 x5 v6 v13 v15 (1 : Int32) G))))))
  else ((gr G 11 17 x0).bind fun a19 =>
  (gr G 11 1 x0).bind fun a20 =>
  gchk (gIn (((516 : Int32) + ((2 : Int32) * x5)) + (1 : Int32)) (gn τ a20)) <|
  (f_X11_factOf τ x0 v6 (ge G a20 (Int32.toNatClampNeg (((516 : Int32) + ((2 : Int32) * x5)) + (1 : Int32)))) x2 G).bind fun v21 =>
  gchk (gIn x3 (gn τ a19)) <| gLet (gse G a19 (Int32.toNatClampNeg x3) v21) fun G22 =>
  gLet (x3 + 1) fun v23 =>
  gLet (x5 + 1) fun v24 =>
  some (.inl (v23, v24, G22))))
def l_X11_holdsLine_22 (τ : gτ) (n : Nat) (x0 : Nat) (x2 : Int32) (x3 : Int32) (x4 : Int32) (x5 : Int32) (G : gG) : Option ((Int32 × gG)) :=
  gIter (fun (q : Int32 × Int32 × gG) => b_X11_holdsLine_22 τ n x0 x2 q.1 x4 q.2.1 q.2.2) n (x3, x5, G)
def k_X11_holdsLine_263 (τ : gτ) (n : Nat) (x0 : Nat) (x3 : Int32)  (G : gG) : Option (Int32 × gG) :=
  if x3 = 0 then (some (1, G))
  else ((gr G 11 17 x0).bind fun a27 =>
  gchk (gIn (0 : Int32) (gn τ a27)) <|
  if (ge G a27 (Int32.toNatClampNeg (0 : Int32))) = (1 : Int32) then (some (1, G))
  else (some (0, G)))
def f_X11_holdsLine (τ : gτ) (n : Nat) (x0 : Nat) (x1 : Int32) (x2 : Int32) (G : gG) : Option (Int32 × gG) :=
  gLet ((468 : Int32) + ((4 : Int32) * x1)) fun v1 =>
  (gr G 11 1 x0).bind fun a2 =>
  gchk (gIn (v1 + (2 : Int32)) (gn τ a2)) <|
  gLet (ge G a2 (Int32.toNatClampNeg (v1 + (2 : Int32)))) fun v3 =>
  (l_X11_holdsLine_22 τ n x0 x2 (0 : Int32) v1 v3 G).bind fun q => gLet q.1 fun z25 => gLet q.2 fun G26 => 
  k_X11_holdsLine_263 τ n x0 z25  G26
set_option maxHeartbeats 4000000 in
set_option maxRecDepth 100000 in
theorem w_X11_holdsLine_256 {X : gX} {τ : gτ} {p : Program} {l : Launch} {e : Env} {s : State} {m : MethodId} {args : Array Value} {below : List Frame} {meth : Method} {c : Code} (fx : gFx X p s m args meth c cX11_holdsLine 10 RX11) (n : Nat) (x0 : Nat) (x2 : Int32) (x3 : Int32) (x4 : Int32) (x5 : Int32) (s0 : Nat) (s1 : Int32) (s2 : Int32) (h0 : gK τ x0 11) (hs0 : gK τ s0 13) {Q : State → Prop} {K : ((Int32 × Int32 × gG) ⊕ ((Int32 × gG))) → Prop} {G : gG} {H : Heap} {locs : List Loc} {ls : Array Slot} (hw : gHw X τ G H locs) (hl : lv_has ls 10 [(0, .ref x0), (2, .int x2), (3, .int x3), (4, .int x4), (5, .int x5)]) (hok : gOk (k_X11_holdsLine_256 τ n x0 x2 x3 x4 x5 s0 s1 s2 G) K) (hc : ∀ (y3 : Int32) (y5 : Int32) (G : gG) (H : Heap) (locs : List Loc) (ls : Array Slot), gHw X τ G H locs → lv_has ls 10 [(0, .ref x0), (2, .int x2), (3, .int y3), (4, .int x4), (5, .int y5)] → K (.inl (y3, y5, G)) → W p l e rm_X11_holdsLine s m args below meth c H locs 0 0 Q (F0 m 22 ls [])) (hx0 : ∀ (y3 : Int32) (G : gG) (H : Heap) (locs : List Loc) (ls : Array Slot), gHw X τ G H locs → lv_has ls 10 [(0, .ref x0), (3, .int y3)] → K (.inr (y3, G)) → W p l e rm_X11_holdsLine s m args below meth c H locs 0 0 Q (F0 m 263 ls [])) : W p l e rm_X11_holdsLine s m args below meth c H locs 0 0 Q (F0 m 256 ls [.int s2, .int s1, .ref s0]) := by
  unfold k_X11_holdsLine_256 at hok
  refine g_iast fx hw hs0 dX11_holdsLine_256 hok (fun G17 H locs hw hok => ?_)
  obtain ⟨v18, e_v18, hok⟩ := gOk_let hok
  refine lv_iinc (v := v18) (lv' := [(5, .int v18), (0, .ref x0), (2, .int x2), (3, .int x3), (4, .int x4)]) fx.1 fx.2.1 dX11_holdsLine_257 hl (k := 4) rfl (by rw [e_v18]; rfl) (by decide) rfl (fun ls hl => ?_)
  refine lv_goto (tgt := 22) fx.1 fx.2.1 dX11_holdsLine_260 (by decide) ?_
  exact hc x3 v18 G17 _ _ _  hw (lv_sub hl [1, 2, 3, 4, 0] rfl) (gOk_some hok)
set_option maxHeartbeats 4000000 in
set_option maxRecDepth 100000 in
theorem w_X11_holdsLine_222 {X : gX} {τ : gτ} {p : Program} {l : Launch} {e : Env} {s : State} {m : MethodId} {args : Array Value} {below : List Frame} {meth : Method} {c : Code} (fx : gFx X p s m args meth c cX11_holdsLine 10 RX11) (n : Nat) (x0 : Nat) (x2 : Int32) (x3 : Int32) (x4 : Int32) (x5 : Int32) (x6 : Int32) (x7 : Int32) (x8 : Int32) (s0 : Int32) (h0 : gK τ x0 11)  {Q : State → Prop} {K : ((Int32 × Int32 × gG) ⊕ ((Int32 × gG))) → Prop} {G : gG} {H : Heap} {locs : List Loc} {ls : Array Slot} (hw : gHw X τ G H locs) (hl : lv_has ls 10 [(0, .ref x0), (2, .int x2), (3, .int x3), (4, .int x4), (5, .int x5), (6, .int x6), (7, .int x7), (8, .int x8)]) (hok : gOk (k_X11_holdsLine_222 τ n x0 x2 x3 x4 x5 x6 x7 x8 s0 G) K) (hc : ∀ (y3 : Int32) (y5 : Int32) (G : gG) (H : Heap) (locs : List Loc) (ls : Array Slot), gHw X τ G H locs → lv_has ls 10 [(0, .ref x0), (2, .int x2), (3, .int y3), (4, .int x4), (5, .int y5)] → K (.inl (y3, y5, G)) → W p l e rm_X11_holdsLine s m args below meth c H locs 0 0 Q (F0 m 22 ls [])) (hx0 : ∀ (y3 : Int32) (G : gG) (H : Heap) (locs : List Loc) (ls : Array Slot), gHw X τ G H locs → lv_has ls 10 [(0, .ref x0), (3, .int y3)] → K (.inr (y3, G)) → W p l e rm_X11_holdsLine s m args below meth c H locs 0 0 Q (F0 m 263 ls [])) : W p l e rm_X11_holdsLine s m args below meth c H locs 0 0 Q (F0 m 222 ls [.int s0]) := by
  unfold k_X11_holdsLine_222 at hok
  refine lv_istore (lv' := [(9, .int s0), (0, .ref x0), (2, .int x2), (3, .int x3), (4, .int x4), (5, .int x5), (6, .int x6), (7, .int x7), (8, .int x8)]) fx.1 fx.2.1 dX11_holdsLine_222 hl (by decide) rfl (fun ls hl => ?_)
  refine lv_aload_n fx.1 fx.2.1 dX11_holdsLine_224 rfl (lv_at hl 1 rfl) ?_
  refine g_getr fx hw h0 lf_RX11_39 rfl dX11_holdsLine_225 hok (fun a16 h_a16 hok => ?_)
  refine lv_iload_n fx.1 fx.2.1 dX11_holdsLine_228 rfl (lv_at hl 3 rfl) ?_
  refine lv_iconst (v := 1) fx.1 fx.2.1 dX11_holdsLine_229 (by decide) ?_
  refine lv_isub fx.1 fx.2.1 dX11_holdsLine_230 ?_
  refine lv_iload fx.1 fx.2.1 dX11_holdsLine_231 (lv_at hl 6 rfl) ?_
  refine lv_bipush (v := 12) fx.1 fx.2.1 dX11_holdsLine_233 (by decide) ?_
  refine g_icmp_ne (tgt := 246) fx dX11_holdsLine_235 (by decide) hok (fun hok => ?_) (fun hok => ?_)
  · refine lv_iload fx.1 fx.2.1 dX11_holdsLine_238 (lv_at hl 7 rfl) ?_
    refine lv_iload fx.1 fx.2.1 dX11_holdsLine_240 (lv_at hl 8 rfl) ?_
    refine lv_iadd fx.1 fx.2.1 dX11_holdsLine_242 ?_
    refine lv_goto (tgt := 256) fx.1 fx.2.1 dX11_holdsLine_243 (by decide) ?_
    exact w_X11_holdsLine_256 fx n x0 x2 x3 x4 x5 a16 (x3 - (1 : Int32)) (x7 + x8) h0 h_a16 hw (lv_sub hl [1, 2, 3, 4, 5] rfl) hok hc hx0
  · refine lv_iload fx.1 fx.2.1 dX11_holdsLine_246 (lv_at hl 0 rfl) ?_
    refine g_if_eq (tgt := 255) fx dX11_holdsLine_248 (by decide) hok (fun hok => ?_) (fun hok => ?_)
    · refine lv_iconst (v := 0) fx.1 fx.2.1 dX11_holdsLine_255 (by decide) ?_
      exact w_X11_holdsLine_256 fx n x0 x2 x3 x4 x5 a16 (x3 - (1 : Int32)) (0 : Int32) h0 h_a16 hw (lv_sub hl [1, 2, 3, 4, 5] rfl) hok hc hx0
    · refine lv_iconst (v := 1) fx.1 fx.2.1 dX11_holdsLine_251 (by decide) ?_
      refine lv_goto (tgt := 256) fx.1 fx.2.1 dX11_holdsLine_252 (by decide) ?_
      exact w_X11_holdsLine_256 fx n x0 x2 x3 x4 x5 a16 (x3 - (1 : Int32)) (1 : Int32) h0 h_a16 hw (lv_sub hl [1, 2, 3, 4, 5] rfl) hok hc hx0
set_option maxHeartbeats 4000000 in
set_option maxRecDepth 100000 in
theorem w_b_X11_holdsLine_22 {X : gX} {τ : gτ} {p : Program} {l : Launch} {e : Env} {s : State} {m : MethodId} {args : Array Value} {below : List Frame} {meth : Method} {c : Code} (fx : gFx X p s m args meth c cX11_holdsLine 10 RX11) (n : Nat) (x0 : Nat) (x2 : Int32) (x3 : Int32) (x4 : Int32) (x5 : Int32) (h0 : gK τ x0 11) {Q : State → Prop} {K : ((Int32 × Int32 × gG) ⊕ ((Int32 × gG))) → Prop} {G : gG} {H : Heap} {locs : List Loc} {ls : Array Slot} (hw : gHw X τ G H locs) (hl : lv_has ls 10 [(0, .ref x0), (2, .int x2), (3, .int x3), (4, .int x4), (5, .int x5)]) (hok : gOk (b_X11_holdsLine_22 τ n x0 x2 x3 x4 x5 G) K) (hc : ∀ (y3 : Int32) (y5 : Int32) (G : gG) (H : Heap) (locs : List Loc) (ls : Array Slot), gHw X τ G H locs → lv_has ls 10 [(0, .ref x0), (2, .int x2), (3, .int y3), (4, .int x4), (5, .int y5)] → K (.inl (y3, y5, G)) → W p l e rm_X11_holdsLine s m args below meth c H locs 0 0 Q (F0 m 22 ls [])) (hx0 : ∀ (y3 : Int32) (G : gG) (H : Heap) (locs : List Loc) (ls : Array Slot), gHw X τ G H locs → lv_has ls 10 [(0, .ref x0), (3, .int y3)] → K (.inr (y3, G)) → W p l e rm_X11_holdsLine s m args below meth c H locs 0 0 Q (F0 m 263 ls [])) : W p l e rm_X11_holdsLine s m args below meth c H locs 0 0 Q (F0 m 22 ls []) := by
  unfold b_X11_holdsLine_22 at hok
  refine lv_iload fx.1 fx.2.1 dX11_holdsLine_22 (lv_at hl 4 rfl) ?_
  refine lv_aload_n fx.1 fx.2.1 dX11_holdsLine_24 rfl (lv_at hl 0 rfl) ?_
  refine g_getr fx hw h0 lf_RX11_13 rfl dX11_holdsLine_25 hok (fun a4 h_a4 hok => ?_)
  refine lv_iload fx.1 fx.2.1 dX11_holdsLine_28 (lv_at hl 3 rfl) ?_
  refine lv_iconst (v := 3) fx.1 fx.2.1 dX11_holdsLine_30 (by decide) ?_
  refine lv_iadd fx.1 fx.2.1 dX11_holdsLine_31 ?_
  refine g_iald fx hw h_a4 dX11_holdsLine_32 hok (fun hok => ?_)
  refine g_icmp_ge (tgt := 263) fx dX11_holdsLine_33 (by decide) hok (fun hok => ?_) (fun hok => ?_)
  · exact hx0 x3 G _ _ _  hw (lv_sub hl [0, 2] rfl) (gOk_some hok)
  · refine lv_aload_n fx.1 fx.2.1 dX11_holdsLine_36 rfl (lv_at hl 0 rfl) ?_
    refine g_getr fx hw h0 lf_RX11_13 rfl dX11_holdsLine_37 hok (fun a5 h_a5 hok => ?_)
    refine lv_sipush (v := 516) fx.1 fx.2.1 dX11_holdsLine_40 (by decide) ?_
    refine lv_iconst (v := 2) fx.1 fx.2.1 dX11_holdsLine_43 (by decide) ?_
    refine lv_iload fx.1 fx.2.1 dX11_holdsLine_44 (lv_at hl 4 rfl) ?_
    refine lv_imul fx.1 fx.2.1 dX11_holdsLine_46 ?_
    refine lv_iadd fx.1 fx.2.1 dX11_holdsLine_47 ?_
    refine g_iald fx hw h_a5 dX11_holdsLine_48 hok (fun hok => ?_)
    refine g_leti hok (fun v6 hok => ?_)
    refine lv_istore (lv' := [(6, .int v6), (0, .ref x0), (2, .int x2), (3, .int x3), (4, .int x4), (5, .int x5)]) fx.1 fx.2.1 dX11_holdsLine_49 hl (by decide) rfl (fun ls hl => ?_)
    refine lv_iload fx.1 fx.2.1 dX11_holdsLine_51 (lv_at hl 0 rfl) ?_
    refine lv_bipush (v := 11) fx.1 fx.2.1 dX11_holdsLine_53 (by decide) ?_
    refine g_icmp_gt (tgt := 92) fx dX11_holdsLine_55 (by decide) hok (fun hok => ?_) (fun hok => ?_)
    · refine lv_iload fx.1 fx.2.1 dX11_holdsLine_92 (lv_at hl 0 rfl) ?_
      refine lv_bipush (v := 15) fx.1 fx.2.1 dX11_holdsLine_94 (by decide) ?_
      refine g_icmp_ne (tgt := 120) fx dX11_holdsLine_96 (by decide) hok (fun hok => ?_) (fun hok => ?_)
      · refine lv_aload_n fx.1 fx.2.1 dX11_holdsLine_99 rfl (lv_at hl 1 rfl) ?_
        refine g_getr fx hw h0 lf_RX11_39 rfl dX11_holdsLine_100 hok (fun a7 h_a7 hok => ?_)
        refine lv_iload_n fx.1 fx.2.1 dX11_holdsLine_103 rfl (lv_at hl 3 rfl) ?_
        refine lv_iconst (v := 1) fx.1 fx.2.1 dX11_holdsLine_104 (by decide) ?_
        refine lv_isub fx.1 fx.2.1 dX11_holdsLine_105 ?_
        refine lv_iconst (v := 1) fx.1 fx.2.1 dX11_holdsLine_106 (by decide) ?_
        refine lv_aload_n fx.1 fx.2.1 dX11_holdsLine_107 rfl (lv_at hl 1 rfl) ?_
        refine g_getr fx hw h0 lf_RX11_39 rfl dX11_holdsLine_108 hok (fun a8 h_a8 hok => ?_)
        refine lv_iload_n fx.1 fx.2.1 dX11_holdsLine_111 rfl (lv_at hl 3 rfl) ?_
        refine lv_iconst (v := 1) fx.1 fx.2.1 dX11_holdsLine_112 (by decide) ?_
        refine lv_isub fx.1 fx.2.1 dX11_holdsLine_113 ?_
        refine g_iald fx hw h_a8 dX11_holdsLine_114 hok (fun hok => ?_)
        refine lv_isub fx.1 fx.2.1 dX11_holdsLine_115 ?_
        refine g_iast fx hw h_a7 dX11_holdsLine_116 hok (fun G9 H locs hw hok => ?_)
        refine lv_goto (tgt := 257) fx.1 fx.2.1 dX11_holdsLine_117 (by decide) ?_
        obtain ⟨v10, e_v10, hok⟩ := gOk_let hok
        refine lv_iinc (v := v10) (lv' := [(5, .int v10), (6, .int v6), (0, .ref x0), (2, .int x2), (3, .int x3), (4, .int x4)]) fx.1 fx.2.1 dX11_holdsLine_257 hl (k := 5) rfl (by rw [e_v10]; rfl) (by decide) rfl (fun ls hl => ?_)
        refine lv_goto (tgt := 22) fx.1 fx.2.1 dX11_holdsLine_260 (by decide) ?_
        exact hc x3 v10 G9 _ _ _  hw (lv_sub hl [2, 3, 4, 5, 0] rfl) (gOk_some hok)
      · obtain ⟨v11, e_v11, hok⟩ := gOk_let hok
        refine lv_iinc (v := v11) (lv' := [(3, .int v11), (6, .int v6), (0, .ref x0), (2, .int x2), (4, .int x4), (5, .int x5)]) fx.1 fx.2.1 dX11_holdsLine_120 hl (k := 3) rfl (by rw [e_v11]; rfl) (by decide) rfl (fun ls hl => ?_)
        refine lv_aload_n fx.1 fx.2.1 dX11_holdsLine_123 rfl (lv_at hl 2 rfl) ?_
        refine g_getr fx hw h0 lf_RX11_39 rfl dX11_holdsLine_124 hok (fun a12 h_a12 hok => ?_)
        refine lv_iload_n fx.1 fx.2.1 dX11_holdsLine_127 rfl (lv_at hl 0 rfl) ?_
        refine lv_iconst (v := 1) fx.1 fx.2.1 dX11_holdsLine_128 (by decide) ?_
        refine lv_isub fx.1 fx.2.1 dX11_holdsLine_129 ?_
        refine g_iald fx hw h_a12 dX11_holdsLine_130 hok (fun hok => ?_)
        refine g_leti hok (fun v13 hok => ?_)
        refine lv_istore (lv' := [(7, .int v13), (3, .int v11), (6, .int v6), (0, .ref x0), (2, .int x2), (4, .int x4), (5, .int x5)]) fx.1 fx.2.1 dX11_holdsLine_131 hl (by decide) rfl (fun ls hl => ?_)
        refine lv_aload_n fx.1 fx.2.1 dX11_holdsLine_133 rfl (lv_at hl 3 rfl) ?_
        refine g_getr fx hw h0 lf_RX11_39 rfl dX11_holdsLine_134 hok (fun a14 h_a14 hok => ?_)
        refine lv_iload_n fx.1 fx.2.1 dX11_holdsLine_137 rfl (lv_at hl 1 rfl) ?_
        refine g_iald fx hw h_a14 dX11_holdsLine_138 hok (fun hok => ?_)
        refine g_leti hok (fun v15 hok => ?_)
        refine lv_istore (lv' := [(8, .int v15), (7, .int v13), (3, .int v11), (6, .int v6), (0, .ref x0), (2, .int x2), (4, .int x4), (5, .int x5)]) fx.1 fx.2.1 dX11_holdsLine_139 hl (by decide) rfl (fun ls hl => ?_)
        refine lv_iload fx.1 fx.2.1 dX11_holdsLine_141 (lv_at hl 3 rfl) ?_
        refine lv_bipush (v := 13) fx.1 fx.2.1 dX11_holdsLine_143 (by decide) ?_
        refine g_icmp_ne (tgt := 163) fx dX11_holdsLine_145 (by decide) hok (fun hok => ?_) (fun hok => ?_)
        · refine lv_iload fx.1 fx.2.1 dX11_holdsLine_148 (lv_at hl 1 rfl) ?_
          refine lv_iload fx.1 fx.2.1 dX11_holdsLine_150 (lv_at hl 0 rfl) ?_
          refine g_icmp_ge (tgt := 159) fx dX11_holdsLine_152 (by decide) hok (fun hok => ?_) (fun hok => ?_)
          · refine lv_iconst (v := 0) fx.1 fx.2.1 dX11_holdsLine_159 (by decide) ?_
            refine lv_goto (tgt := 222) fx.1 fx.2.1 dX11_holdsLine_160 (by decide) ?_
            exact w_X11_holdsLine_222 fx n x0 x2 v11 x4 x5 v6 v13 v15 (0 : Int32) h0  hw (lv_sub hl [4, 5, 2, 6, 7, 3, 1, 0] rfl) hok hc hx0
          · refine lv_iconst (v := 1) fx.1 fx.2.1 dX11_holdsLine_155 (by decide) ?_
            refine lv_goto (tgt := 222) fx.1 fx.2.1 dX11_holdsLine_156 (by decide) ?_
            exact w_X11_holdsLine_222 fx n x0 x2 v11 x4 x5 v6 v13 v15 (1 : Int32) h0  hw (lv_sub hl [4, 5, 2, 6, 7, 3, 1, 0] rfl) hok hc hx0
        · refine lv_iload fx.1 fx.2.1 dX11_holdsLine_163 (lv_at hl 3 rfl) ?_
          refine lv_bipush (v := 14) fx.1 fx.2.1 dX11_holdsLine_165 (by decide) ?_
          refine g_icmp_ne (tgt := 185) fx dX11_holdsLine_167 (by decide) hok (fun hok => ?_) (fun hok => ?_)
          · refine lv_iload fx.1 fx.2.1 dX11_holdsLine_170 (lv_at hl 1 rfl) ?_
            refine lv_iload fx.1 fx.2.1 dX11_holdsLine_172 (lv_at hl 0 rfl) ?_
            refine g_icmp_le (tgt := 181) fx dX11_holdsLine_174 (by decide) hok (fun hok => ?_) (fun hok => ?_)
            · refine lv_iconst (v := 0) fx.1 fx.2.1 dX11_holdsLine_181 (by decide) ?_
              refine lv_goto (tgt := 222) fx.1 fx.2.1 dX11_holdsLine_182 (by decide) ?_
              exact w_X11_holdsLine_222 fx n x0 x2 v11 x4 x5 v6 v13 v15 (0 : Int32) h0  hw (lv_sub hl [4, 5, 2, 6, 7, 3, 1, 0] rfl) hok hc hx0
            · refine lv_iconst (v := 1) fx.1 fx.2.1 dX11_holdsLine_177 (by decide) ?_
              refine lv_goto (tgt := 222) fx.1 fx.2.1 dX11_holdsLine_178 (by decide) ?_
              exact w_X11_holdsLine_222 fx n x0 x2 v11 x4 x5 v6 v13 v15 (1 : Int32) h0  hw (lv_sub hl [4, 5, 2, 6, 7, 3, 1, 0] rfl) hok hc hx0
          · refine lv_iload fx.1 fx.2.1 dX11_holdsLine_185 (lv_at hl 3 rfl) ?_
            refine lv_bipush (v := 16) fx.1 fx.2.1 dX11_holdsLine_187 (by decide) ?_
            refine g_icmp_ne (tgt := 209) fx dX11_holdsLine_189 (by decide) hok (fun hok => ?_) (fun hok => ?_)
            · refine lv_iload fx.1 fx.2.1 dX11_holdsLine_192 (lv_at hl 1 rfl) ?_
              refine lv_iload fx.1 fx.2.1 dX11_holdsLine_194 (lv_at hl 0 rfl) ?_
              refine lv_iadd fx.1 fx.2.1 dX11_holdsLine_196 ?_
              refine lv_iconst (v := 2) fx.1 fx.2.1 dX11_holdsLine_197 (by decide) ?_
              refine g_icmp_ne (tgt := 205) fx dX11_holdsLine_198 (by decide) hok (fun hok => ?_) (fun hok => ?_)
              · refine lv_iconst (v := 1) fx.1 fx.2.1 dX11_holdsLine_201 (by decide) ?_
                refine lv_goto (tgt := 222) fx.1 fx.2.1 dX11_holdsLine_202 (by decide) ?_
                exact w_X11_holdsLine_222 fx n x0 x2 v11 x4 x5 v6 v13 v15 (1 : Int32) h0  hw (lv_sub hl [4, 5, 2, 6, 7, 3, 1, 0] rfl) hok hc hx0
              · refine lv_iconst (v := 0) fx.1 fx.2.1 dX11_holdsLine_205 (by decide) ?_
                refine lv_goto (tgt := 222) fx.1 fx.2.1 dX11_holdsLine_206 (by decide) ?_
                exact w_X11_holdsLine_222 fx n x0 x2 v11 x4 x5 v6 v13 v15 (0 : Int32) h0  hw (lv_sub hl [4, 5, 2, 6, 7, 3, 1, 0] rfl) hok hc hx0
            · refine lv_iload fx.1 fx.2.1 dX11_holdsLine_209 (lv_at hl 1 rfl) ?_
              refine lv_iload fx.1 fx.2.1 dX11_holdsLine_211 (lv_at hl 0 rfl) ?_
              refine lv_iadd fx.1 fx.2.1 dX11_holdsLine_213 ?_
              refine g_if_le (tgt := 221) fx dX11_holdsLine_214 (by decide) hok (fun hok => ?_) (fun hok => ?_)
              · refine lv_iconst (v := 0) fx.1 fx.2.1 dX11_holdsLine_221 (by decide) ?_
                exact w_X11_holdsLine_222 fx n x0 x2 v11 x4 x5 v6 v13 v15 (0 : Int32) h0  hw (lv_sub hl [4, 5, 2, 6, 7, 3, 1, 0] rfl) hok hc hx0
              · refine lv_iconst (v := 1) fx.1 fx.2.1 dX11_holdsLine_217 (by decide) ?_
                refine lv_goto (tgt := 222) fx.1 fx.2.1 dX11_holdsLine_218 (by decide) ?_
                exact w_X11_holdsLine_222 fx n x0 x2 v11 x4 x5 v6 v13 v15 (1 : Int32) h0  hw (lv_sub hl [4, 5, 2, 6, 7, 3, 1, 0] rfl) hok hc hx0
    · refine lv_aload_n fx.1 fx.2.1 dX11_holdsLine_58 rfl (lv_at hl 1 rfl) ?_
      refine g_getr fx hw h0 lf_RX11_39 rfl dX11_holdsLine_59 hok (fun a19 h_a19 hok => ?_)
      refine lv_iload_n fx.1 fx.2.1 dX11_holdsLine_62 rfl (lv_at hl 3 rfl) ?_
      refine lv_aload_n fx.1 fx.2.1 dX11_holdsLine_63 rfl (lv_at hl 1 rfl) ?_
      refine lv_iload fx.1 fx.2.1 dX11_holdsLine_64 (lv_at hl 0 rfl) ?_
      refine lv_aload_n fx.1 fx.2.1 dX11_holdsLine_66 rfl (lv_at hl 1 rfl) ?_
      refine g_getr fx hw h0 lf_RX11_13 rfl dX11_holdsLine_67 hok (fun a20 h_a20 hok => ?_)
      refine lv_sipush (v := 516) fx.1 fx.2.1 dX11_holdsLine_70 (by decide) ?_
      refine lv_iconst (v := 2) fx.1 fx.2.1 dX11_holdsLine_73 (by decide) ?_
      refine lv_iload fx.1 fx.2.1 dX11_holdsLine_74 (lv_at hl 5 rfl) ?_
      refine lv_imul fx.1 fx.2.1 dX11_holdsLine_76 ?_
      refine lv_iadd fx.1 fx.2.1 dX11_holdsLine_77 ?_
      refine lv_iconst (v := 1) fx.1 fx.2.1 dX11_holdsLine_78 (by decide) ?_
      refine lv_iadd fx.1 fx.2.1 dX11_holdsLine_79 ?_
      refine g_iald fx hw h_a20 dX11_holdsLine_80 hok (fun hok => ?_)
      refine lv_iload_n fx.1 fx.2.1 dX11_holdsLine_81 rfl (lv_at hl 2 rfl) ?_
      obtain ⟨v21, hf, hok⟩ := gOk_bind hok
      refine g_callV0 (κ := 11) fx hw (c_X11_factOf l X τ x0 v6 (ge G a20 (Int32.toNatClampNeg (((516 : Int32) + ((2 : Int32) * x5)) + (1 : Int32)))) x2 G h0 hf) lv_RX11_291 ⟨rfl, rfl⟩ rfl rfl h0 rfl hl.1 rfl ⟨Nat.le_of_ble_eq_true rfl, Nat.le_of_ble_eq_true rfl⟩ (Nat.le_of_ble_eq_true rfl) ⟨Nat.le_of_ble_eq_true rfl, Nat.le_of_ble_eq_true rfl⟩ dX11_holdsLine_82 (fun H locs hw => ?_)
      refine g_iast fx hw h_a19 dX11_holdsLine_85 hok (fun G22 H locs hw hok => ?_)
      obtain ⟨v23, e_v23, hok⟩ := gOk_let hok
      refine lv_iinc (v := v23) (lv' := [(3, .int v23), (6, .int v6), (0, .ref x0), (2, .int x2), (4, .int x4), (5, .int x5)]) fx.1 fx.2.1 dX11_holdsLine_86 hl (k := 3) rfl (by rw [e_v23]; rfl) (by decide) rfl (fun ls hl => ?_)
      refine lv_goto (tgt := 257) fx.1 fx.2.1 dX11_holdsLine_89 (by decide) ?_
      obtain ⟨v24, e_v24, hok⟩ := gOk_let hok
      refine lv_iinc (v := v24) (lv' := [(5, .int v24), (3, .int v23), (6, .int v6), (0, .ref x0), (2, .int x2), (4, .int x4)]) fx.1 fx.2.1 dX11_holdsLine_257 hl (k := 5) rfl (by rw [e_v24]; rfl) (by decide) rfl (fun ls hl => ?_)
      refine lv_goto (tgt := 22) fx.1 fx.2.1 dX11_holdsLine_260 (by decide) ?_
      exact hc v23 v24 G22 _ _ _  hw (lv_sub hl [3, 4, 1, 5, 0] rfl) (gOk_some hok)
theorem w_l_X11_holdsLine_22 {X : gX} {τ : gτ} {p : Program} {l : Launch} {e : Env} {s : State} {m : MethodId} {args : Array Value} {below : List Frame} {meth : Method} {c : Code} (fx : gFx X p s m args meth c cX11_holdsLine 10 RX11) (n : Nat) (x0 : Nat) (x2 : Int32) (x4 : Int32) (h0 : gK τ x0 11) {Q : State → Prop} {K : ((Int32 × gG)) → Prop} (hx0 : ∀ (y3 : Int32) (G : gG) (H : Heap) (locs : List Loc) (ls : Array Slot), gHw X τ G H locs → lv_has ls 10 [(0, .ref x0), (3, .int y3)] → K (y3, G) → W p l e rm_X11_holdsLine s m args below meth c H locs 0 0 Q (F0 m 263 ls [])) : ∀ (k : Nat) (x3 : Int32) (x5 : Int32) (G : gG) (H : Heap) (locs : List Loc) (ls : Array Slot), gHw X τ G H locs → lv_has ls 10 [(0, .ref x0), (2, .int x2), (3, .int x3), (4, .int x4), (5, .int x5)] → gOk (gIter (fun (q : Int32 × Int32 × gG) => b_X11_holdsLine_22 τ n x0 x2 q.1 x4 q.2.1 q.2.2) k (x3, x5, G)) K → W p l e rm_X11_holdsLine s m args below meth c H locs 0 0 Q (F0 m 22 ls []) := by
  intro k
  induction k with
  | zero =>
    intro x3 x5 G H locs ls hw hl hok
    exact gOk_iter0 hok
  | succ k hc =>
    intro x3 x5 G H locs ls hw hl hok
    exact w_b_X11_holdsLine_22 fx n x0 x2 x3 x4 x5 h0 hw hl (gOk_iter hok) hc hx0
set_option maxHeartbeats 4000000 in
set_option maxRecDepth 100000 in
theorem w_X11_holdsLine_263 {X : gX} {τ : gτ} {p : Program} {l : Launch} {e : Env} {s : State} {m : MethodId} {args : Array Value} {below : List Frame} {meth : Method} {c : Code} (fx : gFx X p s m args meth c cX11_holdsLine 10 RX11) (n : Nat) (x0 : Nat) (x3 : Int32)  (h0 : gK τ x0 11)  (hr : meth.sig.returnType = (some .boolean)) {r : Int32} {G' : gG} {G : gG} {H : Heap} {locs : List Loc} {ls : Array Slot} (hw : gHw X τ G H locs) (hl : lv_has ls 10 [(0, .ref x0), (3, .int x3)]) (hok : gOk (k_X11_holdsLine_263 τ n x0 x3  G) (fun q => q = (r, G')))  : W p l e rm_X11_holdsLine s m args below meth c H locs 0 0 (MQ below (gQ X τ (some (.int r)) G') args s 0 0 (gFree X)) (F0 m 263 ls []) := by
  unfold k_X11_holdsLine_263 at hok
  refine lv_iload_n fx.1 fx.2.1 dX11_holdsLine_263 rfl (lv_at hl 1 rfl) ?_
  refine g_if_eq (tgt := 277) fx dX11_holdsLine_264 (by decide) hok (fun hok => ?_) (fun hok => ?_)
  · refine lv_iconst (v := 1) fx.1 fx.2.1 dX11_holdsLine_277 (by decide) ?_
    refine lv_goto (tgt := 282) fx.1 fx.2.1 dX11_holdsLine_278 (by decide) ?_
    cases gOk_some hok
    exact g_zret fx hw hr (by decide) dX11_holdsLine_282
  · refine lv_aload_n fx.1 fx.2.1 dX11_holdsLine_267 rfl (lv_at hl 0 rfl) ?_
    refine g_getr fx hw h0 lf_RX11_39 rfl dX11_holdsLine_268 hok (fun a27 h_a27 hok => ?_)
    refine lv_iconst (v := 0) fx.1 fx.2.1 dX11_holdsLine_271 (by decide) ?_
    refine g_iald fx hw h_a27 dX11_holdsLine_272 hok (fun hok => ?_)
    refine lv_iconst (v := 1) fx.1 fx.2.1 dX11_holdsLine_273 (by decide) ?_
    refine g_icmp_ne (tgt := 281) fx dX11_holdsLine_274 (by decide) hok (fun hok => ?_) (fun hok => ?_)
    · refine lv_iconst (v := 1) fx.1 fx.2.1 dX11_holdsLine_277 (by decide) ?_
      refine lv_goto (tgt := 282) fx.1 fx.2.1 dX11_holdsLine_278 (by decide) ?_
      cases gOk_some hok
      exact g_zret fx hw hr (by decide) dX11_holdsLine_282
    · refine lv_iconst (v := 0) fx.1 fx.2.1 dX11_holdsLine_281 (by decide) ?_
      cases gOk_some hok
      exact g_zret fx hw hr (by decide) dX11_holdsLine_282
set_option maxHeartbeats 4000000 in
set_option maxRecDepth 100000 in
theorem c_X11_holdsLine (l : Launch) (X : gX) (τ : gτ) (n : Nat) (x0 : Nat) (x1 : Int32) (x2 : Int32) (G : gG) (h0 : gK τ x0 11) {r : Int32} {G' : gG} (h : f_X11_holdsLine τ n x0 x1 x2 G = some (r, G')) : gM l X τ yX11_holdsLine cX11_holdsLine 10 (some .boolean) rm_X11_holdsLine [.ref x0, .int x1, .int x2] G (some (.int r)) G' := by
  refine g_body (by decide +kernel) (Nat.le_of_ble_eq_true rfl) ?_
  intro p e s m args below meth c ls fx hr hw hl
  have fx : gFx X p s m args meth c cX11_holdsLine 10 RX11 := fx
  have hl : lv_has ls 10 [(0, .ref x0), (1, .int x1), (2, .int x2)] := hl
  have hok : gOk (f_X11_holdsLine τ n x0 x1 x2 G) (fun q => q = (r, G')) := ⟨_, h, rfl⟩
  unfold f_X11_holdsLine at hok
  show W p l e rm_X11_holdsLine s m args below meth c s.heap [] 0 0 (MQ below (gQ X τ (some (.int r)) G') args s 0 0 (gFree X)) _
  refine lv_iconst (v := 0) fx.1 fx.2.1 dX11_holdsLine_0 (by decide) ?_
  refine lv_istore_n (lv' := [(3, .int (0 : Int32)), (0, .ref x0), (1, .int x1), (2, .int x2)]) fx.1 fx.2.1 dX11_holdsLine_1 rfl hl (by decide) rfl (fun ls hl => ?_)
  refine lv_sipush (v := 468) fx.1 fx.2.1 dX11_holdsLine_2 (by decide) ?_
  refine lv_iconst (v := 4) fx.1 fx.2.1 dX11_holdsLine_5 (by decide) ?_
  refine lv_iload_n fx.1 fx.2.1 dX11_holdsLine_6 rfl (lv_at hl 2 rfl) ?_
  refine lv_imul fx.1 fx.2.1 dX11_holdsLine_7 ?_
  refine lv_iadd fx.1 fx.2.1 dX11_holdsLine_8 ?_
  refine g_leti hok (fun v1 hok => ?_)
  refine lv_istore (lv' := [(4, .int v1), (3, .int (0 : Int32)), (0, .ref x0), (1, .int x1), (2, .int x2)]) fx.1 fx.2.1 dX11_holdsLine_9 hl (by decide) rfl (fun ls hl => ?_)
  refine lv_aload_n fx.1 fx.2.1 dX11_holdsLine_11 rfl (lv_at hl 2 rfl) ?_
  refine g_getr fx hw h0 lf_RX11_13 rfl dX11_holdsLine_12 hok (fun a2 h_a2 hok => ?_)
  refine lv_iload fx.1 fx.2.1 dX11_holdsLine_15 (lv_at hl 0 rfl) ?_
  refine lv_iconst (v := 2) fx.1 fx.2.1 dX11_holdsLine_17 (by decide) ?_
  refine lv_iadd fx.1 fx.2.1 dX11_holdsLine_18 ?_
  refine g_iald fx hw h_a2 dX11_holdsLine_19 hok (fun hok => ?_)
  refine g_leti hok (fun v3 hok => ?_)
  refine lv_istore (lv' := [(5, .int v3), (4, .int v1), (3, .int (0 : Int32)), (0, .ref x0), (1, .int x1), (2, .int x2)]) fx.1 fx.2.1 dX11_holdsLine_20 hl (by decide) rfl (fun ls hl => ?_)
  refine w_l_X11_holdsLine_22 fx n x0 x2 v1 h0 ?_ n (0 : Int32) v3 G _ _ _  hw (lv_sub hl [3, 5, 2, 1, 0] rfl) (gOk_bindK hok)
  intro z25 G26 H locs ls hw hl hok
  have hok : gOk (ρ := Int32 × gG) (k_X11_holdsLine_263 τ n x0 z25  G26) _ := hok
  exact w_X11_holdsLine_263 fx n x0 z25  h0  hr hw (lv_sub hl [0, 1] rfl) hok
theorem dX11_sumOf_0 : decode cX11_sumOf 0 = .ok (.iconst 0, 1) := by decide +kernel
theorem dX11_sumOf_1 : decode cX11_sumOf 1 = .ok (.istore_n 3, 1) := by decide +kernel
theorem dX11_sumOf_2 : decode cX11_sumOf 2 = .ok (.iconst 0, 1) := by decide +kernel
theorem dX11_sumOf_3 : decode cX11_sumOf 3 = .ok (.istore 4, 2) := by decide +kernel
theorem dX11_sumOf_5 : decode cX11_sumOf 5 = .ok (.aload_n 0, 1) := by decide +kernel
theorem dX11_sumOf_6 : decode cX11_sumOf 6 = .ok (.getfield 13, 3) := by decide +kernel
theorem dX11_sumOf_9 : decode cX11_sumOf 9 = .ok (.iconst 4, 1) := by decide +kernel
theorem dX11_sumOf_10 : decode cX11_sumOf 10 = .ok (.iaload, 1) := by decide +kernel
theorem dX11_sumOf_11 : decode cX11_sumOf 11 = .ok (.iconst 1, 1) := by decide +kernel
theorem dX11_sumOf_12 : decode cX11_sumOf 12 = .ok (.if_icmp .ne 67, 3) := by decide +kernel
theorem dX11_sumOf_15 : decode cX11_sumOf 15 = .ok (.iload 4, 2) := by decide +kernel
theorem dX11_sumOf_17 : decode cX11_sumOf 17 = .ok (.aload_n 0, 1) := by decide +kernel
theorem dX11_sumOf_18 : decode cX11_sumOf 18 = .ok (.getfield 13, 3) := by decide +kernel
theorem dX11_sumOf_21 : decode cX11_sumOf 21 = .ok (.sipush 467, 3) := by decide +kernel
theorem dX11_sumOf_24 : decode cX11_sumOf 24 = .ok (.iaload, 1) := by decide +kernel
theorem dX11_sumOf_25 : decode cX11_sumOf 25 = .ok (.if_icmp .ge 54, 3) := by decide +kernel
theorem dX11_sumOf_28 : decode cX11_sumOf 28 = .ok (.aload_n 0, 1) := by decide +kernel
theorem dX11_sumOf_29 : decode cX11_sumOf 29 = .ok (.getfield 13, 3) := by decide +kernel
theorem dX11_sumOf_32 : decode cX11_sumOf 32 = .ok (.sipush 468, 3) := by decide +kernel
theorem dX11_sumOf_35 : decode cX11_sumOf 35 = .ok (.iconst 4, 1) := by decide +kernel
theorem dX11_sumOf_36 : decode cX11_sumOf 36 = .ok (.iload 4, 2) := by decide +kernel
theorem dX11_sumOf_38 : decode cX11_sumOf 38 = .ok (.imul, 1) := by decide +kernel
theorem dX11_sumOf_39 : decode cX11_sumOf 39 = .ok (.iadd, 1) := by decide +kernel
theorem dX11_sumOf_40 : decode cX11_sumOf 40 = .ok (.iaload, 1) := by decide +kernel
theorem dX11_sumOf_41 : decode cX11_sumOf 41 = .ok (.iload_n 1, 1) := by decide +kernel
theorem dX11_sumOf_42 : decode cX11_sumOf 42 = .ok (.if_icmp .ne 31, 3) := by decide +kernel
theorem dX11_sumOf_45 : decode cX11_sumOf 45 = .ok (.aload_n 0, 1) := by decide +kernel
theorem dX11_sumOf_46 : decode cX11_sumOf 46 = .ok (.iload 4, 2) := by decide +kernel
theorem dX11_sumOf_48 : decode cX11_sumOf 48 = .ok (.iload_n 2, 1) := by decide +kernel
theorem dX11_sumOf_49 : decode cX11_sumOf 49 = .ok (.invokevirtual 294, 3) := by decide +kernel
theorem dX11_sumOf_52 : decode cX11_sumOf 52 = .ok (.ifCond .eq 21, 3) := by decide +kernel
theorem dX11_sumOf_55 : decode cX11_sumOf 55 = .ok (.iload_n 3, 1) := by decide +kernel
theorem dX11_sumOf_56 : decode cX11_sumOf 56 = .ok (.aload_n 0, 1) := by decide +kernel
theorem dX11_sumOf_57 : decode cX11_sumOf 57 = .ok (.getfield 13, 3) := by decide +kernel
theorem dX11_sumOf_60 : decode cX11_sumOf 60 = .ok (.sipush 468, 3) := by decide +kernel
theorem dX11_sumOf_63 : decode cX11_sumOf 63 = .ok (.iconst 4, 1) := by decide +kernel
theorem dX11_sumOf_64 : decode cX11_sumOf 64 = .ok (.iload 4, 2) := by decide +kernel
theorem dX11_sumOf_66 : decode cX11_sumOf 66 = .ok (.imul, 1) := by decide +kernel
theorem dX11_sumOf_67 : decode cX11_sumOf 67 = .ok (.iadd, 1) := by decide +kernel
theorem dX11_sumOf_68 : decode cX11_sumOf 68 = .ok (.iconst 1, 1) := by decide +kernel
theorem dX11_sumOf_69 : decode cX11_sumOf 69 = .ok (.iadd, 1) := by decide +kernel
theorem dX11_sumOf_70 : decode cX11_sumOf 70 = .ok (.iaload, 1) := by decide +kernel
theorem dX11_sumOf_71 : decode cX11_sumOf 71 = .ok (.iadd, 1) := by decide +kernel
theorem dX11_sumOf_72 : decode cX11_sumOf 72 = .ok (.istore_n 3, 1) := by decide +kernel
theorem dX11_sumOf_73 : decode cX11_sumOf 73 = .ok (.iinc 4 1, 3) := by decide +kernel
theorem dX11_sumOf_76 : decode cX11_sumOf 76 = .ok (.goto (-71), 3) := by decide +kernel
theorem dX11_sumOf_79 : decode cX11_sumOf 79 = .ok (.iload_n 3, 1) := by decide +kernel
theorem dX11_sumOf_80 : decode cX11_sumOf 80 = .ok (.ireturn, 1) := by decide +kernel
theorem lv_RX11_294 : gLv RX11 294 RX11 yX11_holdsLine cX11_holdsLine 10 (some .boolean) 2 := gLv_of (wA_t (wt8 (List.mem_of_getElem? (i := 45) (by decide +kernel))) (by decide +kernel)) (wA_t (wt8 (List.mem_of_getElem? (i := 47) (by decide +kernel))) (by decide +kernel)) (wA_of (List.mem_append_left _ (List.mem_map.mpr ⟨(⟨"YearRopeModel", "holdsLine", "(II)Z"⟩, 20), wp6 (List.mem_of_getElem? (i := 4) (by decide +kernel)), rfl⟩)) (by decide +kernel)) (wA_t (wt1 (List.mem_of_getElem? (i := 12) (by decide +kernel))) (by decide +kernel)) (wA_t (wt8 (List.mem_of_getElem? (i := 48) (by decide +kernel))) (by decide +kernel)) ⟨rfl, by decide +kernel, by decide +kernel, by decide +kernel⟩
def rm_X11_sumOf : Room := { frames := 6, cells := 0, slots := 0, locals := 139 }
def b_X11_sumOf_5 (τ : gτ) (n : Nat) (x0 : Nat) (x1 : Int32) (x2 : Int32) (x3 : Int32) (x4 : Int32) (G : gG) : Option ((Int32 × Int32 × gG) ⊕ ((Int32 × gG))) :=
  (gr G 11 1 x0).bind fun a1 =>
  gchk (gIn (4 : Int32) (gn τ a1)) <|
  if (ge G a1 (Int32.toNatClampNeg (4 : Int32))) = (1 : Int32) then ((gr G 11 1 x0).bind fun a2 =>
  gchk (gIn (467 : Int32) (gn τ a2)) <|
  if (ge G a2 (Int32.toNatClampNeg (467 : Int32))) ≤ x4 then (some (.inr (x3, G)))
  else ((gr G 11 1 x0).bind fun a3 =>
  gchk (gIn ((468 : Int32) + ((4 : Int32) * x4)) (gn τ a3)) <|
  if (ge G a3 (Int32.toNatClampNeg ((468 : Int32) + ((4 : Int32) * x4)))) = x1 then (gBind2 (f_X11_holdsLine τ n x0 x4 x2 G) fun v4 G5 =>
  if v4 = 0 then (gLet (x4 + 1) fun v6 =>
  some (.inl (x3, v6, G5)))
  else ((gr G5 11 1 x0).bind fun a7 =>
  gchk (gIn (((468 : Int32) + ((4 : Int32) * x4)) + (1 : Int32)) (gn τ a7)) <|
  gLet (x3 + (ge G5 a7 (Int32.toNatClampNeg (((468 : Int32) + ((4 : Int32) * x4)) + (1 : Int32))))) fun v8 =>
  gLet (x4 + 1) fun v9 =>
  some (.inl (v8, v9, G5))))
  else (gLet (x4 + 1) fun v10 =>
  some (.inl (x3, v10, G)))))
  else (some (.inr (x3, G)))
def l_X11_sumOf_5 (τ : gτ) (n : Nat) (x0 : Nat) (x1 : Int32) (x2 : Int32) (x3 : Int32) (x4 : Int32) (G : gG) : Option ((Int32 × gG)) :=
  gIter (fun (q : Int32 × Int32 × gG) => b_X11_sumOf_5 τ n x0 x1 x2 q.1 q.2.1 q.2.2) n (x3, x4, G)
def f_X11_sumOf (τ : gτ) (n : Nat) (x0 : Nat) (x1 : Int32) (x2 : Int32) (G : gG) : Option (Int32 × gG) :=
  (l_X11_sumOf_5 τ n x0 x1 x2 (0 : Int32) (0 : Int32) G).bind fun q => gLet q.1 fun z11 => gLet q.2 fun G12 => 
  some (z11, G12)
set_option maxHeartbeats 4000000 in
set_option maxRecDepth 100000 in
theorem w_b_X11_sumOf_5 {X : gX} {τ : gτ} {p : Program} {l : Launch} {e : Env} {s : State} {m : MethodId} {args : Array Value} {below : List Frame} {meth : Method} {c : Code} (fx : gFx X p s m args meth c cX11_sumOf 5 RX11) (n : Nat) (x0 : Nat) (x1 : Int32) (x2 : Int32) (x3 : Int32) (x4 : Int32) (h0 : gK τ x0 11) {Q : State → Prop} {K : ((Int32 × Int32 × gG) ⊕ ((Int32 × gG))) → Prop} {G : gG} {H : Heap} {locs : List Loc} {ls : Array Slot} (hw : gHw X τ G H locs) (hl : lv_has ls 5 [(0, .ref x0), (1, .int x1), (2, .int x2), (3, .int x3), (4, .int x4)]) (hok : gOk (b_X11_sumOf_5 τ n x0 x1 x2 x3 x4 G) K) (hc : ∀ (y3 : Int32) (y4 : Int32) (G : gG) (H : Heap) (locs : List Loc) (ls : Array Slot), gHw X τ G H locs → lv_has ls 5 [(0, .ref x0), (1, .int x1), (2, .int x2), (3, .int y3), (4, .int y4)] → K (.inl (y3, y4, G)) → W p l e rm_X11_sumOf s m args below meth c H locs 0 0 Q (F0 m 5 ls [])) (hx0 : ∀ (y3 : Int32) (G : gG) (H : Heap) (locs : List Loc) (ls : Array Slot), gHw X τ G H locs → lv_has ls 5 [(3, .int y3)] → K (.inr (y3, G)) → W p l e rm_X11_sumOf s m args below meth c H locs 0 0 Q (F0 m 79 ls [])) : W p l e rm_X11_sumOf s m args below meth c H locs 0 0 Q (F0 m 5 ls []) := by
  unfold b_X11_sumOf_5 at hok
  refine lv_aload_n fx.1 fx.2.1 dX11_sumOf_5 rfl (lv_at hl 0 rfl) ?_
  refine g_getr fx hw h0 lf_RX11_13 rfl dX11_sumOf_6 hok (fun a1 h_a1 hok => ?_)
  refine lv_iconst (v := 4) fx.1 fx.2.1 dX11_sumOf_9 (by decide) ?_
  refine g_iald fx hw h_a1 dX11_sumOf_10 hok (fun hok => ?_)
  refine lv_iconst (v := 1) fx.1 fx.2.1 dX11_sumOf_11 (by decide) ?_
  refine g_icmp_ne (tgt := 79) fx dX11_sumOf_12 (by decide) hok (fun hok => ?_) (fun hok => ?_)
  · refine lv_iload fx.1 fx.2.1 dX11_sumOf_15 (lv_at hl 4 rfl) ?_
    refine lv_aload_n fx.1 fx.2.1 dX11_sumOf_17 rfl (lv_at hl 0 rfl) ?_
    refine g_getr fx hw h0 lf_RX11_13 rfl dX11_sumOf_18 hok (fun a2 h_a2 hok => ?_)
    refine lv_sipush (v := 467) fx.1 fx.2.1 dX11_sumOf_21 (by decide) ?_
    refine g_iald fx hw h_a2 dX11_sumOf_24 hok (fun hok => ?_)
    refine g_icmp_ge (tgt := 79) fx dX11_sumOf_25 (by decide) hok (fun hok => ?_) (fun hok => ?_)
    · exact hx0 x3 G _ _ _  hw (lv_sub hl [3] rfl) (gOk_some hok)
    · refine lv_aload_n fx.1 fx.2.1 dX11_sumOf_28 rfl (lv_at hl 0 rfl) ?_
      refine g_getr fx hw h0 lf_RX11_13 rfl dX11_sumOf_29 hok (fun a3 h_a3 hok => ?_)
      refine lv_sipush (v := 468) fx.1 fx.2.1 dX11_sumOf_32 (by decide) ?_
      refine lv_iconst (v := 4) fx.1 fx.2.1 dX11_sumOf_35 (by decide) ?_
      refine lv_iload fx.1 fx.2.1 dX11_sumOf_36 (lv_at hl 4 rfl) ?_
      refine lv_imul fx.1 fx.2.1 dX11_sumOf_38 ?_
      refine lv_iadd fx.1 fx.2.1 dX11_sumOf_39 ?_
      refine g_iald fx hw h_a3 dX11_sumOf_40 hok (fun hok => ?_)
      refine lv_iload_n fx.1 fx.2.1 dX11_sumOf_41 rfl (lv_at hl 1 rfl) ?_
      refine g_icmp_ne (tgt := 73) fx dX11_sumOf_42 (by decide) hok (fun hok => ?_) (fun hok => ?_)
      · refine lv_aload_n fx.1 fx.2.1 dX11_sumOf_45 rfl (lv_at hl 0 rfl) ?_
        refine lv_iload fx.1 fx.2.1 dX11_sumOf_46 (lv_at hl 4 rfl) ?_
        refine lv_iload_n fx.1 fx.2.1 dX11_sumOf_48 rfl (lv_at hl 2 rfl) ?_
        obtain ⟨v4, G5, hf, hok⟩ := gOk_bind2 hok
        refine g_callV0 (κ := 11) fx hw (c_X11_holdsLine l X τ n x0 x4 x2 G h0 hf) lv_RX11_294 ⟨rfl, rfl⟩ rfl rfl h0 rfl hl.1 rfl ⟨Nat.le_of_ble_eq_true rfl, Nat.le_of_ble_eq_true rfl⟩ (Nat.le_of_ble_eq_true rfl) ⟨Nat.le_of_ble_eq_true rfl, Nat.le_of_ble_eq_true rfl⟩ dX11_sumOf_49 (fun H locs hw => ?_)
        refine g_if_eq (tgt := 73) fx dX11_sumOf_52 (by decide) hok (fun hok => ?_) (fun hok => ?_)
        · obtain ⟨v6, e_v6, hok⟩ := gOk_let hok
          refine lv_iinc (v := v6) (lv' := [(4, .int v6), (0, .ref x0), (1, .int x1), (2, .int x2), (3, .int x3)]) fx.1 fx.2.1 dX11_sumOf_73 hl (k := 4) rfl (by rw [e_v6]; rfl) (by decide) rfl (fun ls hl => ?_)
          refine lv_goto (tgt := 5) fx.1 fx.2.1 dX11_sumOf_76 (by decide) ?_
          exact hc x3 v6 G5 _ _ _  hw (lv_sub hl [1, 2, 3, 4, 0] rfl) (gOk_some hok)
        · refine lv_iload_n fx.1 fx.2.1 dX11_sumOf_55 rfl (lv_at hl 3 rfl) ?_
          refine lv_aload_n fx.1 fx.2.1 dX11_sumOf_56 rfl (lv_at hl 0 rfl) ?_
          refine g_getr fx hw h0 lf_RX11_13 rfl dX11_sumOf_57 hok (fun a7 h_a7 hok => ?_)
          refine lv_sipush (v := 468) fx.1 fx.2.1 dX11_sumOf_60 (by decide) ?_
          refine lv_iconst (v := 4) fx.1 fx.2.1 dX11_sumOf_63 (by decide) ?_
          refine lv_iload fx.1 fx.2.1 dX11_sumOf_64 (lv_at hl 4 rfl) ?_
          refine lv_imul fx.1 fx.2.1 dX11_sumOf_66 ?_
          refine lv_iadd fx.1 fx.2.1 dX11_sumOf_67 ?_
          refine lv_iconst (v := 1) fx.1 fx.2.1 dX11_sumOf_68 (by decide) ?_
          refine lv_iadd fx.1 fx.2.1 dX11_sumOf_69 ?_
          refine g_iald fx hw h_a7 dX11_sumOf_70 hok (fun hok => ?_)
          refine lv_iadd fx.1 fx.2.1 dX11_sumOf_71 ?_
          refine g_leti hok (fun v8 hok => ?_)
          refine lv_istore_n (lv' := [(3, .int v8), (0, .ref x0), (1, .int x1), (2, .int x2), (4, .int x4)]) fx.1 fx.2.1 dX11_sumOf_72 rfl hl (by decide) rfl (fun ls hl => ?_)
          obtain ⟨v9, e_v9, hok⟩ := gOk_let hok
          refine lv_iinc (v := v9) (lv' := [(4, .int v9), (3, .int v8), (0, .ref x0), (1, .int x1), (2, .int x2)]) fx.1 fx.2.1 dX11_sumOf_73 hl (k := 4) rfl (by rw [e_v9]; rfl) (by decide) rfl (fun ls hl => ?_)
          refine lv_goto (tgt := 5) fx.1 fx.2.1 dX11_sumOf_76 (by decide) ?_
          exact hc v8 v9 G5 _ _ _  hw (lv_sub hl [2, 3, 4, 1, 0] rfl) (gOk_some hok)
      · obtain ⟨v10, e_v10, hok⟩ := gOk_let hok
        refine lv_iinc (v := v10) (lv' := [(4, .int v10), (0, .ref x0), (1, .int x1), (2, .int x2), (3, .int x3)]) fx.1 fx.2.1 dX11_sumOf_73 hl (k := 4) rfl (by rw [e_v10]; rfl) (by decide) rfl (fun ls hl => ?_)
        refine lv_goto (tgt := 5) fx.1 fx.2.1 dX11_sumOf_76 (by decide) ?_
        exact hc x3 v10 G _ _ _  hw (lv_sub hl [1, 2, 3, 4, 0] rfl) (gOk_some hok)
  · exact hx0 x3 G _ _ _  hw (lv_sub hl [3] rfl) (gOk_some hok)
theorem w_l_X11_sumOf_5 {X : gX} {τ : gτ} {p : Program} {l : Launch} {e : Env} {s : State} {m : MethodId} {args : Array Value} {below : List Frame} {meth : Method} {c : Code} (fx : gFx X p s m args meth c cX11_sumOf 5 RX11) (n : Nat) (x0 : Nat) (x1 : Int32) (x2 : Int32) (h0 : gK τ x0 11) {Q : State → Prop} {K : ((Int32 × gG)) → Prop} (hx0 : ∀ (y3 : Int32) (G : gG) (H : Heap) (locs : List Loc) (ls : Array Slot), gHw X τ G H locs → lv_has ls 5 [(3, .int y3)] → K (y3, G) → W p l e rm_X11_sumOf s m args below meth c H locs 0 0 Q (F0 m 79 ls [])) : ∀ (k : Nat) (x3 : Int32) (x4 : Int32) (G : gG) (H : Heap) (locs : List Loc) (ls : Array Slot), gHw X τ G H locs → lv_has ls 5 [(0, .ref x0), (1, .int x1), (2, .int x2), (3, .int x3), (4, .int x4)] → gOk (gIter (fun (q : Int32 × Int32 × gG) => b_X11_sumOf_5 τ n x0 x1 x2 q.1 q.2.1 q.2.2) k (x3, x4, G)) K → W p l e rm_X11_sumOf s m args below meth c H locs 0 0 Q (F0 m 5 ls []) := by
  intro k
  induction k with
  | zero =>
    intro x3 x4 G H locs ls hw hl hok
    exact gOk_iter0 hok
  | succ k hc =>
    intro x3 x4 G H locs ls hw hl hok
    exact w_b_X11_sumOf_5 fx n x0 x1 x2 x3 x4 h0 hw hl (gOk_iter hok) hc hx0
set_option maxHeartbeats 4000000 in
set_option maxRecDepth 100000 in
theorem c_X11_sumOf (l : Launch) (X : gX) (τ : gτ) (n : Nat) (x0 : Nat) (x1 : Int32) (x2 : Int32) (G : gG) (h0 : gK τ x0 11) {r : Int32} {G' : gG} (h : f_X11_sumOf τ n x0 x1 x2 G = some (r, G')) : gM l X τ yX11_sumOf cX11_sumOf 5 (some .int) rm_X11_sumOf [.ref x0, .int x1, .int x2] G (some (.int r)) G' := by
  refine g_body (by decide +kernel) (Nat.le_of_ble_eq_true rfl) ?_
  intro p e s m args below meth c ls fx hr hw hl
  have fx : gFx X p s m args meth c cX11_sumOf 5 RX11 := fx
  have hl : lv_has ls 5 [(0, .ref x0), (1, .int x1), (2, .int x2)] := hl
  have hok : gOk (f_X11_sumOf τ n x0 x1 x2 G) (fun q => q = (r, G')) := ⟨_, h, rfl⟩
  unfold f_X11_sumOf at hok
  show W p l e rm_X11_sumOf s m args below meth c s.heap [] 0 0 (MQ below (gQ X τ (some (.int r)) G') args s 0 0 (gFree X)) _
  refine lv_iconst (v := 0) fx.1 fx.2.1 dX11_sumOf_0 (by decide) ?_
  refine lv_istore_n (lv' := [(3, .int (0 : Int32)), (0, .ref x0), (1, .int x1), (2, .int x2)]) fx.1 fx.2.1 dX11_sumOf_1 rfl hl (by decide) rfl (fun ls hl => ?_)
  refine lv_iconst (v := 0) fx.1 fx.2.1 dX11_sumOf_2 (by decide) ?_
  refine lv_istore (lv' := [(4, .int (0 : Int32)), (3, .int (0 : Int32)), (0, .ref x0), (1, .int x1), (2, .int x2)]) fx.1 fx.2.1 dX11_sumOf_3 hl (by decide) rfl (fun ls hl => ?_)
  refine w_l_X11_sumOf_5 fx n x0 x1 x2 h0 ?_ n (0 : Int32) (0 : Int32) G _ _ _  hw (lv_sub hl [2, 3, 4, 1, 0] rfl) (gOk_bindK hok)
  intro z11 G12 H locs ls hw hl hok
  have hok : gOk (ρ := Int32 × gG) (some (z11, G12)) _ := hok
  refine lv_iload_n fx.1 fx.2.1 dX11_sumOf_79 rfl (lv_at hl 0 rfl) ?_
  cases gOk_some hok
  exact g_iret fx hw hr dX11_sumOf_80
theorem dX11_soundOf_0 : decode cX11_soundOf 0 = .ok (.iconst 0, 1) := by decide +kernel
theorem dX11_soundOf_1 : decode cX11_soundOf 1 = .ok (.aload_n 0, 1) := by decide +kernel
theorem dX11_soundOf_2 : decode cX11_soundOf 2 = .ok (.iload_n 1, 1) := by decide +kernel
theorem dX11_soundOf_3 : decode cX11_soundOf 3 = .ok (.iconst 0, 1) := by decide +kernel
theorem dX11_soundOf_4 : decode cX11_soundOf 4 = .ok (.invokevirtual 132, 3) := by decide +kernel
theorem dX11_soundOf_7 : decode cX11_soundOf 7 = .ok (.aload_n 0, 1) := by decide +kernel
theorem dX11_soundOf_8 : decode cX11_soundOf 8 = .ok (.iload_n 1, 1) := by decide +kernel
theorem dX11_soundOf_9 : decode cX11_soundOf 9 = .ok (.iconst 2, 1) := by decide +kernel
theorem dX11_soundOf_10 : decode cX11_soundOf 10 = .ok (.invokevirtual 132, 3) := by decide +kernel
theorem dX11_soundOf_13 : decode cX11_soundOf 13 = .ok (.isub, 1) := by decide +kernel
theorem dX11_soundOf_14 : decode cX11_soundOf 14 = .ok (.invokestatic 270, 3) := by decide +kernel
theorem dX11_soundOf_17 : decode cX11_soundOf 17 = .ok (.ireturn, 1) := by decide +kernel
def rm_X11_soundOf : Room := { frames := 2, cells := 0, slots := 0, locals := 43 }
def f_X11_soundOf (τ : gτ) (x0 : Nat) (x1 : Int32) (G : gG) : Option (Int32) :=
  (f_X11_ofYarn τ x0 x1 (0 : Int32) G).bind fun v1 =>
  (f_X11_ofYarn τ x0 x1 (2 : Int32) G).bind fun v2 =>
  some (gmax (0 : Int32) (v1 - v2))
set_option maxHeartbeats 4000000 in
set_option maxRecDepth 100000 in
theorem c_X11_soundOf (l : Launch) (X : gX) (τ : gτ) (x0 : Nat) (x1 : Int32) (G : gG) (h0 : gK τ x0 11) {r : Int32}  (h : f_X11_soundOf τ x0 x1 G = some r) : gM l X τ yX11_soundOf cX11_soundOf 2 (some .int) rm_X11_soundOf [.ref x0, .int x1] G (some (.int r)) G := by
  refine g_body (by decide +kernel) (Nat.le_of_ble_eq_true rfl) ?_
  intro p e s m args below meth c ls fx hr hw hl
  have fx : gFx X p s m args meth c cX11_soundOf 2 RX11 := fx
  have hl : lv_has ls 2 [(0, .ref x0), (1, .int x1)] := hl
  have hok : gOk (f_X11_soundOf τ x0 x1 G) (fun q => q = r) := ⟨_, h, rfl⟩
  unfold f_X11_soundOf at hok
  show W p l e rm_X11_soundOf s m args below meth c s.heap [] 0 0 (MQ below (gQ X τ (some (.int r)) G) args s 0 0 (gFree X)) _
  refine lv_iconst (v := 0) fx.1 fx.2.1 dX11_soundOf_0 (by decide) ?_
  refine lv_aload_n fx.1 fx.2.1 dX11_soundOf_1 rfl (lv_at hl 0 rfl) ?_
  refine lv_iload_n fx.1 fx.2.1 dX11_soundOf_2 rfl (lv_at hl 1 rfl) ?_
  refine lv_iconst (v := 0) fx.1 fx.2.1 dX11_soundOf_3 (by decide) ?_
  obtain ⟨v1, hf, hok⟩ := gOk_bind hok
  refine g_callV0 (κ := 11) fx hw (c_X11_ofYarn l X τ x0 x1 (0 : Int32) G h0 hf) lv_RX11_132 ⟨rfl, rfl⟩ rfl rfl h0 rfl hl.1 rfl ⟨Nat.le_of_ble_eq_true rfl, Nat.le_of_ble_eq_true rfl⟩ (Nat.le_of_ble_eq_true rfl) ⟨Nat.le_of_ble_eq_true rfl, Nat.le_of_ble_eq_true rfl⟩ dX11_soundOf_4 (fun H locs hw => ?_)
  refine lv_aload_n fx.1 fx.2.1 dX11_soundOf_7 rfl (lv_at hl 0 rfl) ?_
  refine lv_iload_n fx.1 fx.2.1 dX11_soundOf_8 rfl (lv_at hl 1 rfl) ?_
  refine lv_iconst (v := 2) fx.1 fx.2.1 dX11_soundOf_9 (by decide) ?_
  obtain ⟨v2, hf, hok⟩ := gOk_bind hok
  refine g_callV0 (κ := 11) fx hw (c_X11_ofYarn l X τ x0 x1 (2 : Int32) G h0 hf) lv_RX11_132 ⟨rfl, rfl⟩ rfl rfl h0 rfl hl.1 rfl ⟨Nat.le_of_ble_eq_true rfl, Nat.le_of_ble_eq_true rfl⟩ (Nat.le_of_ble_eq_true rfl) ⟨Nat.le_of_ble_eq_true rfl, Nat.le_of_ble_eq_true rfl⟩ dX11_soundOf_10 (fun H locs hw => ?_)
  refine lv_isub fx.1 fx.2.1 dX11_soundOf_13 ?_
  refine g_mmax fx hl.1 lm_RX11_270 lmst_max lm_init lmco_max ⟨Nat.le_of_ble_eq_true rfl, Nat.le_of_ble_eq_true rfl, Nat.le_of_ble_eq_true rfl, Nat.le_of_ble_eq_true rfl⟩ dX11_soundOf_14 ?_
  cases gOk_some hok
  exact g_iret fx hw hr dX11_soundOf_17
theorem dX11_bearsOf_0 : decode cX11_bearsOf 0 = .ok (.aload_n 0, 1) := by decide +kernel
theorem dX11_bearsOf_1 : decode cX11_bearsOf 1 = .ok (.iload_n 1, 1) := by decide +kernel
theorem dX11_bearsOf_2 : decode cX11_bearsOf 2 = .ok (.invokevirtual 146, 3) := by decide +kernel
theorem dX11_bearsOf_5 : decode cX11_bearsOf 5 = .ok (.ifCond .ne 5, 3) := by decide +kernel
theorem dX11_bearsOf_8 : decode cX11_bearsOf 8 = .ok (.iconst 0, 1) := by decide +kernel
theorem dX11_bearsOf_9 : decode cX11_bearsOf 9 = .ok (.ireturn, 1) := by decide +kernel
theorem dX11_bearsOf_10 : decode cX11_bearsOf 10 = .ok (.aload_n 0, 1) := by decide +kernel
theorem dX11_bearsOf_11 : decode cX11_bearsOf 11 = .ok (.aload_n 0, 1) := by decide +kernel
theorem dX11_bearsOf_12 : decode cX11_bearsOf 12 = .ok (.iload_n 1, 1) := by decide +kernel
theorem dX11_bearsOf_13 : decode cX11_bearsOf 13 = .ok (.iconst 0, 1) := by decide +kernel
theorem dX11_bearsOf_14 : decode cX11_bearsOf 14 = .ok (.invokevirtual 62, 3) := by decide +kernel
theorem dX11_bearsOf_17 : decode cX11_bearsOf 17 = .ok (.invokevirtual 297, 3) := by decide +kernel
theorem dX11_bearsOf_20 : decode cX11_bearsOf 20 = .ok (.aload_n 0, 1) := by decide +kernel
theorem dX11_bearsOf_21 : decode cX11_bearsOf 21 = .ok (.aload_n 0, 1) := by decide +kernel
theorem dX11_bearsOf_22 : decode cX11_bearsOf 22 = .ok (.iload_n 1, 1) := by decide +kernel
theorem dX11_bearsOf_23 : decode cX11_bearsOf 23 = .ok (.iconst 1, 1) := by decide +kernel
theorem dX11_bearsOf_24 : decode cX11_bearsOf 24 = .ok (.invokevirtual 62, 3) := by decide +kernel
theorem dX11_bearsOf_27 : decode cX11_bearsOf 27 = .ok (.invokevirtual 297, 3) := by decide +kernel
theorem dX11_bearsOf_30 : decode cX11_bearsOf 30 = .ok (.iadd, 1) := by decide +kernel
theorem dX11_bearsOf_31 : decode cX11_bearsOf 31 = .ok (.aload_n 0, 1) := by decide +kernel
theorem dX11_bearsOf_32 : decode cX11_bearsOf 32 = .ok (.aload_n 0, 1) := by decide +kernel
theorem dX11_bearsOf_33 : decode cX11_bearsOf 33 = .ok (.iload_n 1, 1) := by decide +kernel
theorem dX11_bearsOf_34 : decode cX11_bearsOf 34 = .ok (.iconst 2, 1) := by decide +kernel
theorem dX11_bearsOf_35 : decode cX11_bearsOf 35 = .ok (.invokevirtual 62, 3) := by decide +kernel
theorem dX11_bearsOf_38 : decode cX11_bearsOf 38 = .ok (.invokevirtual 297, 3) := by decide +kernel
theorem dX11_bearsOf_41 : decode cX11_bearsOf 41 = .ok (.iadd, 1) := by decide +kernel
theorem dX11_bearsOf_42 : decode cX11_bearsOf 42 = .ok (.aload_n 0, 1) := by decide +kernel
theorem dX11_bearsOf_43 : decode cX11_bearsOf 43 = .ok (.iconst 1, 1) := by decide +kernel
theorem dX11_bearsOf_44 : decode cX11_bearsOf 44 = .ok (.iload_n 1, 1) := by decide +kernel
theorem dX11_bearsOf_45 : decode cX11_bearsOf 45 = .ok (.invokevirtual 300, 3) := by decide +kernel
theorem dX11_bearsOf_48 : decode cX11_bearsOf 48 = .ok (.iadd, 1) := by decide +kernel
theorem dX11_bearsOf_49 : decode cX11_bearsOf 49 = .ok (.aload_n 0, 1) := by decide +kernel
theorem dX11_bearsOf_50 : decode cX11_bearsOf 50 = .ok (.iconst (-1), 1) := by decide +kernel
theorem dX11_bearsOf_51 : decode cX11_bearsOf 51 = .ok (.iload_n 1, 1) := by decide +kernel
theorem dX11_bearsOf_52 : decode cX11_bearsOf 52 = .ok (.invokevirtual 300, 3) := by decide +kernel
theorem dX11_bearsOf_55 : decode cX11_bearsOf 55 = .ok (.isub, 1) := by decide +kernel
theorem dX11_bearsOf_56 : decode cX11_bearsOf 56 = .ok (.aload_n 0, 1) := by decide +kernel
theorem dX11_bearsOf_57 : decode cX11_bearsOf 57 = .ok (.iload_n 1, 1) := by decide +kernel
theorem dX11_bearsOf_58 : decode cX11_bearsOf 58 = .ok (.iconst 5, 1) := by decide +kernel
theorem dX11_bearsOf_59 : decode cX11_bearsOf 59 = .ok (.invokevirtual 62, 3) := by decide +kernel
theorem dX11_bearsOf_62 : decode cX11_bearsOf 62 = .ok (.bipush 10, 2) := by decide +kernel
theorem dX11_bearsOf_64 : decode cX11_bearsOf 64 = .ok (.idiv, 1) := by decide +kernel
theorem dX11_bearsOf_65 : decode cX11_bearsOf 65 = .ok (.isub, 1) := by decide +kernel
theorem dX11_bearsOf_66 : decode cX11_bearsOf 66 = .ok (.istore_n 2, 1) := by decide +kernel
theorem dX11_bearsOf_67 : decode cX11_bearsOf 67 = .ok (.iconst 0, 1) := by decide +kernel
theorem dX11_bearsOf_68 : decode cX11_bearsOf 68 = .ok (.iload_n 2, 1) := by decide +kernel
theorem dX11_bearsOf_69 : decode cX11_bearsOf 69 = .ok (.invokestatic 270, 3) := by decide +kernel
theorem dX11_bearsOf_72 : decode cX11_bearsOf 72 = .ok (.aload_n 0, 1) := by decide +kernel
theorem dX11_bearsOf_73 : decode cX11_bearsOf 73 = .ok (.iload_n 1, 1) := by decide +kernel
theorem dX11_bearsOf_74 : decode cX11_bearsOf 74 = .ok (.bipush 7, 2) := by decide +kernel
theorem dX11_bearsOf_76 : decode cX11_bearsOf 76 = .ok (.invokevirtual 62, 3) := by decide +kernel
theorem dX11_bearsOf_79 : decode cX11_bearsOf 79 = .ok (.imul, 1) := by decide +kernel
theorem dX11_bearsOf_80 : decode cX11_bearsOf 80 = .ok (.ireturn, 1) := by decide +kernel
theorem lv_RX11_297 : gLv RX11 297 RX11 yX11_soundOf cX11_soundOf 2 (some .int) 1 := gLv_of (wA_t (wt8 (List.mem_of_getElem? (i := 37) (by decide +kernel))) (by decide +kernel)) (wA_t (wt8 (List.mem_of_getElem? (i := 39) (by decide +kernel))) (by decide +kernel)) (wA_of (List.mem_append_left _ (List.mem_map.mpr ⟨(⟨"YearRopeModel", "soundOf", "(I)I"⟩, 20), wp6 (List.mem_of_getElem? (i := 2) (by decide +kernel)), rfl⟩)) (by decide +kernel)) (wA_t (wt1 (List.mem_of_getElem? (i := 12) (by decide +kernel))) (by decide +kernel)) (wA_t (wt8 (List.mem_of_getElem? (i := 40) (by decide +kernel))) (by decide +kernel)) ⟨rfl, by decide +kernel, by decide +kernel, by decide +kernel⟩
theorem lv_RX11_300 : gLv RX11 300 RX11 yX11_sumOf cX11_sumOf 5 (some .int) 2 := gLv_of (wA_t (wt8 (List.mem_of_getElem? (i := 41) (by decide +kernel))) (by decide +kernel)) (wA_t (wt8 (List.mem_of_getElem? (i := 43) (by decide +kernel))) (by decide +kernel)) (wA_of (List.mem_append_left _ (List.mem_map.mpr ⟨(⟨"YearRopeModel", "sumOf", "(II)I"⟩, 20), wp6 (List.mem_of_getElem? (i := 3) (by decide +kernel)), rfl⟩)) (by decide +kernel)) (wA_t (wt1 (List.mem_of_getElem? (i := 12) (by decide +kernel))) (by decide +kernel)) (wA_t (wt8 (List.mem_of_getElem? (i := 44) (by decide +kernel))) (by decide +kernel)) ⟨rfl, by decide +kernel, by decide +kernel, by decide +kernel⟩
def rm_X11_bearsOf : Room := { frames := 7, cells := 0, slots := 0, locals := 163 }
def f_X11_bearsOf (τ : gτ) (n : Nat) (x0 : Nat) (x1 : Int32) (G : gG) : Option (Int32 × gG) :=
  (f_X11_isWhole τ x0 x1 G).bind fun v1 =>
  if v1 = 0 then (some (0, G))
  else ((f_X11_of τ x0 x1 (0 : Int32) G).bind fun v2 =>
  (f_X11_soundOf τ x0 v2 G).bind fun v3 =>
  (f_X11_of τ x0 x1 (1 : Int32) G).bind fun v4 =>
  (f_X11_soundOf τ x0 v4 G).bind fun v5 =>
  (f_X11_of τ x0 x1 (2 : Int32) G).bind fun v6 =>
  (f_X11_soundOf τ x0 v6 G).bind fun v7 =>
  gBind2 (f_X11_sumOf τ n x0 (1 : Int32) x1 G) fun v8 G9 =>
  gBind2 (f_X11_sumOf τ n x0 (-1 : Int32) x1 G9) fun v10 G11 =>
  (f_X11_of τ x0 x1 (5 : Int32) G11).bind fun v12 =>
  gLet (((((v3 + v5) + v7) + v8) - v10) - (v12 / (10 : Int32))) fun v13 =>
  (f_X11_of τ x0 x1 (7 : Int32) G11).bind fun v14 =>
  some ((gmax (0 : Int32) v13) * v14, G11))
set_option maxHeartbeats 4000000 in
set_option maxRecDepth 100000 in
theorem c_X11_bearsOf (l : Launch) (X : gX) (τ : gτ) (n : Nat) (x0 : Nat) (x1 : Int32) (G : gG) (h0 : gK τ x0 11) {r : Int32} {G' : gG} (h : f_X11_bearsOf τ n x0 x1 G = some (r, G')) : gM l X τ yX11_bearsOf cX11_bearsOf 3 (some .int) rm_X11_bearsOf [.ref x0, .int x1] G (some (.int r)) G' := by
  refine g_body (by decide +kernel) (Nat.le_of_ble_eq_true rfl) ?_
  intro p e s m args below meth c ls fx hr hw hl
  have fx : gFx X p s m args meth c cX11_bearsOf 3 RX11 := fx
  have hl : lv_has ls 3 [(0, .ref x0), (1, .int x1)] := hl
  have hok : gOk (f_X11_bearsOf τ n x0 x1 G) (fun q => q = (r, G')) := ⟨_, h, rfl⟩
  unfold f_X11_bearsOf at hok
  show W p l e rm_X11_bearsOf s m args below meth c s.heap [] 0 0 (MQ below (gQ X τ (some (.int r)) G') args s 0 0 (gFree X)) _
  refine lv_aload_n fx.1 fx.2.1 dX11_bearsOf_0 rfl (lv_at hl 0 rfl) ?_
  refine lv_iload_n fx.1 fx.2.1 dX11_bearsOf_1 rfl (lv_at hl 1 rfl) ?_
  obtain ⟨v1, hf, hok⟩ := gOk_bind hok
  refine g_callV0 (κ := 11) fx hw (c_X11_isWhole l X τ x0 x1 G h0 hf) lv_RX11_146 ⟨rfl, rfl⟩ rfl rfl h0 rfl hl.1 rfl ⟨Nat.le_of_ble_eq_true rfl, Nat.le_of_ble_eq_true rfl⟩ (Nat.le_of_ble_eq_true rfl) ⟨Nat.le_of_ble_eq_true rfl, Nat.le_of_ble_eq_true rfl⟩ dX11_bearsOf_2 (fun H locs hw => ?_)
  refine g_if_ne (tgt := 10) fx dX11_bearsOf_5 (by decide) hok (fun hok => ?_) (fun hok => ?_)
  · refine lv_iconst (v := 0) fx.1 fx.2.1 dX11_bearsOf_8 (by decide) ?_
    cases gOk_some hok
    exact g_iret fx hw hr dX11_bearsOf_9
  · refine lv_aload_n fx.1 fx.2.1 dX11_bearsOf_10 rfl (lv_at hl 0 rfl) ?_
    refine lv_aload_n fx.1 fx.2.1 dX11_bearsOf_11 rfl (lv_at hl 0 rfl) ?_
    refine lv_iload_n fx.1 fx.2.1 dX11_bearsOf_12 rfl (lv_at hl 1 rfl) ?_
    refine lv_iconst (v := 0) fx.1 fx.2.1 dX11_bearsOf_13 (by decide) ?_
    obtain ⟨v2, hf, hok⟩ := gOk_bind hok
    refine g_callV0 (κ := 11) fx hw (c_X11_of l X τ x0 x1 (0 : Int32) G h0 hf) lv_RX11_62 ⟨rfl, rfl⟩ rfl rfl h0 rfl hl.1 rfl ⟨Nat.le_of_ble_eq_true rfl, Nat.le_of_ble_eq_true rfl⟩ (Nat.le_of_ble_eq_true rfl) ⟨Nat.le_of_ble_eq_true rfl, Nat.le_of_ble_eq_true rfl⟩ dX11_bearsOf_14 (fun H locs hw => ?_)
    obtain ⟨v3, hf, hok⟩ := gOk_bind hok
    refine g_callV0 (κ := 11) fx hw (c_X11_soundOf l X τ x0 v2 G h0 hf) lv_RX11_297 ⟨rfl, rfl⟩ rfl rfl h0 rfl hl.1 rfl ⟨Nat.le_of_ble_eq_true rfl, Nat.le_of_ble_eq_true rfl⟩ (Nat.le_of_ble_eq_true rfl) ⟨Nat.le_of_ble_eq_true rfl, Nat.le_of_ble_eq_true rfl⟩ dX11_bearsOf_17 (fun H locs hw => ?_)
    refine lv_aload_n fx.1 fx.2.1 dX11_bearsOf_20 rfl (lv_at hl 0 rfl) ?_
    refine lv_aload_n fx.1 fx.2.1 dX11_bearsOf_21 rfl (lv_at hl 0 rfl) ?_
    refine lv_iload_n fx.1 fx.2.1 dX11_bearsOf_22 rfl (lv_at hl 1 rfl) ?_
    refine lv_iconst (v := 1) fx.1 fx.2.1 dX11_bearsOf_23 (by decide) ?_
    obtain ⟨v4, hf, hok⟩ := gOk_bind hok
    refine g_callV0 (κ := 11) fx hw (c_X11_of l X τ x0 x1 (1 : Int32) G h0 hf) lv_RX11_62 ⟨rfl, rfl⟩ rfl rfl h0 rfl hl.1 rfl ⟨Nat.le_of_ble_eq_true rfl, Nat.le_of_ble_eq_true rfl⟩ (Nat.le_of_ble_eq_true rfl) ⟨Nat.le_of_ble_eq_true rfl, Nat.le_of_ble_eq_true rfl⟩ dX11_bearsOf_24 (fun H locs hw => ?_)
    obtain ⟨v5, hf, hok⟩ := gOk_bind hok
    refine g_callV0 (κ := 11) fx hw (c_X11_soundOf l X τ x0 v4 G h0 hf) lv_RX11_297 ⟨rfl, rfl⟩ rfl rfl h0 rfl hl.1 rfl ⟨Nat.le_of_ble_eq_true rfl, Nat.le_of_ble_eq_true rfl⟩ (Nat.le_of_ble_eq_true rfl) ⟨Nat.le_of_ble_eq_true rfl, Nat.le_of_ble_eq_true rfl⟩ dX11_bearsOf_27 (fun H locs hw => ?_)
    refine lv_iadd fx.1 fx.2.1 dX11_bearsOf_30 ?_
    refine lv_aload_n fx.1 fx.2.1 dX11_bearsOf_31 rfl (lv_at hl 0 rfl) ?_
    refine lv_aload_n fx.1 fx.2.1 dX11_bearsOf_32 rfl (lv_at hl 0 rfl) ?_
    refine lv_iload_n fx.1 fx.2.1 dX11_bearsOf_33 rfl (lv_at hl 1 rfl) ?_
    refine lv_iconst (v := 2) fx.1 fx.2.1 dX11_bearsOf_34 (by decide) ?_
    obtain ⟨v6, hf, hok⟩ := gOk_bind hok
    refine g_callV0 (κ := 11) fx hw (c_X11_of l X τ x0 x1 (2 : Int32) G h0 hf) lv_RX11_62 ⟨rfl, rfl⟩ rfl rfl h0 rfl hl.1 rfl ⟨Nat.le_of_ble_eq_true rfl, Nat.le_of_ble_eq_true rfl⟩ (Nat.le_of_ble_eq_true rfl) ⟨Nat.le_of_ble_eq_true rfl, Nat.le_of_ble_eq_true rfl⟩ dX11_bearsOf_35 (fun H locs hw => ?_)
    obtain ⟨v7, hf, hok⟩ := gOk_bind hok
    refine g_callV0 (κ := 11) fx hw (c_X11_soundOf l X τ x0 v6 G h0 hf) lv_RX11_297 ⟨rfl, rfl⟩ rfl rfl h0 rfl hl.1 rfl ⟨Nat.le_of_ble_eq_true rfl, Nat.le_of_ble_eq_true rfl⟩ (Nat.le_of_ble_eq_true rfl) ⟨Nat.le_of_ble_eq_true rfl, Nat.le_of_ble_eq_true rfl⟩ dX11_bearsOf_38 (fun H locs hw => ?_)
    refine lv_iadd fx.1 fx.2.1 dX11_bearsOf_41 ?_
    refine lv_aload_n fx.1 fx.2.1 dX11_bearsOf_42 rfl (lv_at hl 0 rfl) ?_
    refine lv_iconst (v := 1) fx.1 fx.2.1 dX11_bearsOf_43 (by decide) ?_
    refine lv_iload_n fx.1 fx.2.1 dX11_bearsOf_44 rfl (lv_at hl 1 rfl) ?_
    obtain ⟨v8, G9, hf, hok⟩ := gOk_bind2 hok
    refine g_callV0 (κ := 11) fx hw (c_X11_sumOf l X τ n x0 (1 : Int32) x1 G h0 hf) lv_RX11_300 ⟨rfl, rfl⟩ rfl rfl h0 rfl hl.1 rfl ⟨Nat.le_of_ble_eq_true rfl, Nat.le_of_ble_eq_true rfl⟩ (Nat.le_of_ble_eq_true rfl) ⟨Nat.le_of_ble_eq_true rfl, Nat.le_of_ble_eq_true rfl⟩ dX11_bearsOf_45 (fun H locs hw => ?_)
    refine lv_iadd fx.1 fx.2.1 dX11_bearsOf_48 ?_
    refine lv_aload_n fx.1 fx.2.1 dX11_bearsOf_49 rfl (lv_at hl 0 rfl) ?_
    refine lv_iconst (v := (-1)) fx.1 fx.2.1 dX11_bearsOf_50 (by decide) ?_
    refine lv_iload_n fx.1 fx.2.1 dX11_bearsOf_51 rfl (lv_at hl 1 rfl) ?_
    obtain ⟨v10, G11, hf, hok⟩ := gOk_bind2 hok
    refine g_callV0 (κ := 11) fx hw (c_X11_sumOf l X τ n x0 (-1 : Int32) x1 G9 h0 hf) lv_RX11_300 ⟨rfl, rfl⟩ rfl rfl h0 rfl hl.1 rfl ⟨Nat.le_of_ble_eq_true rfl, Nat.le_of_ble_eq_true rfl⟩ (Nat.le_of_ble_eq_true rfl) ⟨Nat.le_of_ble_eq_true rfl, Nat.le_of_ble_eq_true rfl⟩ dX11_bearsOf_52 (fun H locs hw => ?_)
    refine lv_isub fx.1 fx.2.1 dX11_bearsOf_55 ?_
    refine lv_aload_n fx.1 fx.2.1 dX11_bearsOf_56 rfl (lv_at hl 0 rfl) ?_
    refine lv_iload_n fx.1 fx.2.1 dX11_bearsOf_57 rfl (lv_at hl 1 rfl) ?_
    refine lv_iconst (v := 5) fx.1 fx.2.1 dX11_bearsOf_58 (by decide) ?_
    obtain ⟨v12, hf, hok⟩ := gOk_bind hok
    refine g_callV0 (κ := 11) fx hw (c_X11_of l X τ x0 x1 (5 : Int32) G11 h0 hf) lv_RX11_62 ⟨rfl, rfl⟩ rfl rfl h0 rfl hl.1 rfl ⟨Nat.le_of_ble_eq_true rfl, Nat.le_of_ble_eq_true rfl⟩ (Nat.le_of_ble_eq_true rfl) ⟨Nat.le_of_ble_eq_true rfl, Nat.le_of_ble_eq_true rfl⟩ dX11_bearsOf_59 (fun H locs hw => ?_)
    refine lv_bipush (v := 10) fx.1 fx.2.1 dX11_bearsOf_62 (by decide) ?_
    refine lv_idiv fx.1 fx.2.1 dX11_bearsOf_64 (by decide) ?_
    refine lv_isub fx.1 fx.2.1 dX11_bearsOf_65 ?_
    refine g_leti hok (fun v13 hok => ?_)
    refine lv_istore_n (lv' := [(2, .int v13), (0, .ref x0), (1, .int x1)]) fx.1 fx.2.1 dX11_bearsOf_66 rfl hl (by decide) rfl (fun ls hl => ?_)
    refine lv_iconst (v := 0) fx.1 fx.2.1 dX11_bearsOf_67 (by decide) ?_
    refine lv_iload_n fx.1 fx.2.1 dX11_bearsOf_68 rfl (lv_at hl 0 rfl) ?_
    refine g_mmax fx hl.1 lm_RX11_270 lmst_max lm_init lmco_max ⟨Nat.le_of_ble_eq_true rfl, Nat.le_of_ble_eq_true rfl, Nat.le_of_ble_eq_true rfl, Nat.le_of_ble_eq_true rfl⟩ dX11_bearsOf_69 ?_
    refine lv_aload_n fx.1 fx.2.1 dX11_bearsOf_72 rfl (lv_at hl 1 rfl) ?_
    refine lv_iload_n fx.1 fx.2.1 dX11_bearsOf_73 rfl (lv_at hl 2 rfl) ?_
    refine lv_bipush (v := 7) fx.1 fx.2.1 dX11_bearsOf_74 (by decide) ?_
    obtain ⟨v14, hf, hok⟩ := gOk_bind hok
    refine g_callV0 (κ := 11) fx hw (c_X11_of l X τ x0 x1 (7 : Int32) G11 h0 hf) lv_RX11_62 ⟨rfl, rfl⟩ rfl rfl h0 rfl hl.1 rfl ⟨Nat.le_of_ble_eq_true rfl, Nat.le_of_ble_eq_true rfl⟩ (Nat.le_of_ble_eq_true rfl) ⟨Nat.le_of_ble_eq_true rfl, Nat.le_of_ble_eq_true rfl⟩ dX11_bearsOf_76 (fun H locs hw => ?_)
    refine lv_imul fx.1 fx.2.1 dX11_bearsOf_79 ?_
    cases gOk_some hok
    exact g_iret fx hw hr dX11_bearsOf_80
theorem dX11_wearsBy_0 : decode cX11_wearsBy 0 = .ok (.aload_n 0, 1) := by decide +kernel
theorem dX11_wearsBy_1 : decode cX11_wearsBy 1 = .ok (.getfield 13, 3) := by decide +kernel
theorem dX11_wearsBy_4 : decode cX11_wearsBy 4 = .ok (.iconst 4, 1) := by decide +kernel
theorem dX11_wearsBy_5 : decode cX11_wearsBy 5 = .ok (.iaload, 1) := by decide +kernel
theorem dX11_wearsBy_6 : decode cX11_wearsBy 6 = .ok (.iconst 1, 1) := by decide +kernel
theorem dX11_wearsBy_7 : decode cX11_wearsBy 7 = .ok (.if_icmp .ne 12, 3) := by decide +kernel
theorem dX11_wearsBy_10 : decode cX11_wearsBy 10 = .ok (.aload_n 0, 1) := by decide +kernel
theorem dX11_wearsBy_11 : decode cX11_wearsBy 11 = .ok (.iconst 0, 1) := by decide +kernel
theorem dX11_wearsBy_12 : decode cX11_wearsBy 12 = .ok (.iload_n 1, 1) := by decide +kernel
theorem dX11_wearsBy_13 : decode cX11_wearsBy 13 = .ok (.invokevirtual 300, 3) := by decide +kernel
theorem dX11_wearsBy_16 : decode cX11_wearsBy 16 = .ok (.goto 4, 3) := by decide +kernel
theorem dX11_wearsBy_19 : decode cX11_wearsBy 19 = .ok (.iconst 1, 1) := by decide +kernel
theorem dX11_wearsBy_20 : decode cX11_wearsBy 20 = .ok (.ireturn, 1) := by decide +kernel
def rm_X11_wearsBy : Room := { frames := 7, cells := 0, slots := 0, locals := 163 }
def f_X11_wearsBy (τ : gτ) (n : Nat) (x0 : Nat) (x1 : Int32) (G : gG) : Option (Int32 × gG) :=
  (gr G 11 1 x0).bind fun a1 =>
  gchk (gIn (4 : Int32) (gn τ a1)) <|
  if (ge G a1 (Int32.toNatClampNeg (4 : Int32))) = (1 : Int32) then (gBind2 (f_X11_sumOf τ n x0 (0 : Int32) x1 G) fun v2 G3 =>
  some (v2, G3))
  else (some (1, G))
set_option maxHeartbeats 4000000 in
set_option maxRecDepth 100000 in
theorem c_X11_wearsBy (l : Launch) (X : gX) (τ : gτ) (n : Nat) (x0 : Nat) (x1 : Int32) (G : gG) (h0 : gK τ x0 11) {r : Int32} {G' : gG} (h : f_X11_wearsBy τ n x0 x1 G = some (r, G')) : gM l X τ yX11_wearsBy cX11_wearsBy 2 (some .int) rm_X11_wearsBy [.ref x0, .int x1] G (some (.int r)) G' := by
  refine g_body (by decide +kernel) (Nat.le_of_ble_eq_true rfl) ?_
  intro p e s m args below meth c ls fx hr hw hl
  have fx : gFx X p s m args meth c cX11_wearsBy 2 RX11 := fx
  have hl : lv_has ls 2 [(0, .ref x0), (1, .int x1)] := hl
  have hok : gOk (f_X11_wearsBy τ n x0 x1 G) (fun q => q = (r, G')) := ⟨_, h, rfl⟩
  unfold f_X11_wearsBy at hok
  show W p l e rm_X11_wearsBy s m args below meth c s.heap [] 0 0 (MQ below (gQ X τ (some (.int r)) G') args s 0 0 (gFree X)) _
  refine lv_aload_n fx.1 fx.2.1 dX11_wearsBy_0 rfl (lv_at hl 0 rfl) ?_
  refine g_getr fx hw h0 lf_RX11_13 rfl dX11_wearsBy_1 hok (fun a1 h_a1 hok => ?_)
  refine lv_iconst (v := 4) fx.1 fx.2.1 dX11_wearsBy_4 (by decide) ?_
  refine g_iald fx hw h_a1 dX11_wearsBy_5 hok (fun hok => ?_)
  refine lv_iconst (v := 1) fx.1 fx.2.1 dX11_wearsBy_6 (by decide) ?_
  refine g_icmp_ne (tgt := 19) fx dX11_wearsBy_7 (by decide) hok (fun hok => ?_) (fun hok => ?_)
  · refine lv_aload_n fx.1 fx.2.1 dX11_wearsBy_10 rfl (lv_at hl 0 rfl) ?_
    refine lv_iconst (v := 0) fx.1 fx.2.1 dX11_wearsBy_11 (by decide) ?_
    refine lv_iload_n fx.1 fx.2.1 dX11_wearsBy_12 rfl (lv_at hl 1 rfl) ?_
    obtain ⟨v2, G3, hf, hok⟩ := gOk_bind2 hok
    refine g_callV0 (κ := 11) fx hw (c_X11_sumOf l X τ n x0 (0 : Int32) x1 G h0 hf) lv_RX11_300 ⟨rfl, rfl⟩ rfl rfl h0 rfl hl.1 rfl ⟨Nat.le_of_ble_eq_true rfl, Nat.le_of_ble_eq_true rfl⟩ (Nat.le_of_ble_eq_true rfl) ⟨Nat.le_of_ble_eq_true rfl, Nat.le_of_ble_eq_true rfl⟩ dX11_wearsBy_13 (fun H locs hw => ?_)
    refine lv_goto (tgt := 20) fx.1 fx.2.1 dX11_wearsBy_16 (by decide) ?_
    cases gOk_some hok
    exact g_iret fx hw hr dX11_wearsBy_20
  · refine lv_iconst (v := 1) fx.1 fx.2.1 dX11_wearsBy_19 (by decide) ?_
    cases gOk_some hok
    exact g_iret fx hw hr dX11_wearsBy_20
theorem dX11_bearsBy_0 : decode cX11_bearsBy 0 = .ok (.aload_n 0, 1) := by decide +kernel
theorem dX11_bearsBy_1 : decode cX11_bearsBy 1 = .ok (.bipush 8, 2) := by decide +kernel
theorem dX11_bearsBy_3 : decode cX11_bearsBy 3 = .ok (.iload_n 1, 1) := by decide +kernel
theorem dX11_bearsBy_4 : decode cX11_bearsBy 4 = .ok (.iload_n 2, 1) := by decide +kernel
theorem dX11_bearsBy_5 : decode cX11_bearsBy 5 = .ok (.iload_n 3, 1) := by decide +kernel
theorem dX11_bearsBy_6 : decode cX11_bearsBy 6 = .ok (.iload 4, 2) := by decide +kernel
theorem dX11_bearsBy_8 : decode cX11_bearsBy 8 = .ok (.invokevirtual 128, 3) := by decide +kernel
theorem dX11_bearsBy_11 : decode cX11_bearsBy 11 = .ok (.aload_n 0, 1) := by decide +kernel
theorem dX11_bearsBy_12 : decode cX11_bearsBy 12 = .ok (.bipush 8, 2) := by decide +kernel
theorem dX11_bearsBy_14 : decode cX11_bearsBy 14 = .ok (.invokevirtual 303, 3) := by decide +kernel
theorem dX11_bearsBy_17 : decode cX11_bearsBy 17 = .ok (.ireturn, 1) := by decide +kernel
theorem lv_RX11_303 : gLv RX11 303 RX11 yX11_bearsOf cX11_bearsOf 3 (some .int) 1 := gLv_of (wA_t (wt8 (List.mem_of_getElem? (i := 33) (by decide +kernel))) (by decide +kernel)) (wA_t (wt8 (List.mem_of_getElem? (i := 35) (by decide +kernel))) (by decide +kernel)) (wA_of (List.mem_append_left _ (List.mem_map.mpr ⟨(⟨"YearRopeModel", "bearsOf", "(I)I"⟩, 20), wp6 (List.mem_of_getElem? (i := 1) (by decide +kernel)), rfl⟩)) (by decide +kernel)) (wA_t (wt1 (List.mem_of_getElem? (i := 12) (by decide +kernel))) (by decide +kernel)) (wA_t (wt8 (List.mem_of_getElem? (i := 36) (by decide +kernel))) (by decide +kernel)) ⟨rfl, by decide +kernel, by decide +kernel, by decide +kernel⟩
def rm_X11_bearsBy : Room := { frames := 8, cells := 0, slots := 0, locals := 185 }
def f_X11_bearsBy (τ : gτ) (n : Nat) (x0 : Nat) (x1 : Int32) (x2 : Int32) (x3 : Int32) (x4 : Int32) (G : gG) : Option (Int32 × gG) :=
  (f_X11_lays τ n x0 (8 : Int32) x1 x2 x3 x4 G).bind fun G1 =>
  gBind2 (f_X11_bearsOf τ n x0 (8 : Int32) G1) fun v2 G3 =>
  some (v2, G3)
set_option maxHeartbeats 4000000 in
set_option maxRecDepth 100000 in
theorem c_X11_bearsBy (l : Launch) (X : gX) (τ : gτ) (n : Nat) (x0 : Nat) (x1 : Int32) (x2 : Int32) (x3 : Int32) (x4 : Int32) (G : gG) (h0 : gK τ x0 11) {r : Int32} {G' : gG} (h : f_X11_bearsBy τ n x0 x1 x2 x3 x4 G = some (r, G')) : gM l X τ yX11_bearsBy cX11_bearsBy 5 (some .int) rm_X11_bearsBy [.ref x0, .int x1, .int x2, .int x3, .int x4] G (some (.int r)) G' := by
  refine g_body (by decide +kernel) (Nat.le_of_ble_eq_true rfl) ?_
  intro p e s m args below meth c ls fx hr hw hl
  have fx : gFx X p s m args meth c cX11_bearsBy 5 RX11 := fx
  have hl : lv_has ls 5 [(0, .ref x0), (1, .int x1), (2, .int x2), (3, .int x3), (4, .int x4)] := hl
  have hok : gOk (f_X11_bearsBy τ n x0 x1 x2 x3 x4 G) (fun q => q = (r, G')) := ⟨_, h, rfl⟩
  unfold f_X11_bearsBy at hok
  show W p l e rm_X11_bearsBy s m args below meth c s.heap [] 0 0 (MQ below (gQ X τ (some (.int r)) G') args s 0 0 (gFree X)) _
  refine lv_aload_n fx.1 fx.2.1 dX11_bearsBy_0 rfl (lv_at hl 0 rfl) ?_
  refine lv_bipush (v := 8) fx.1 fx.2.1 dX11_bearsBy_1 (by decide) ?_
  refine lv_iload_n fx.1 fx.2.1 dX11_bearsBy_3 rfl (lv_at hl 1 rfl) ?_
  refine lv_iload_n fx.1 fx.2.1 dX11_bearsBy_4 rfl (lv_at hl 2 rfl) ?_
  refine lv_iload_n fx.1 fx.2.1 dX11_bearsBy_5 rfl (lv_at hl 3 rfl) ?_
  refine lv_iload fx.1 fx.2.1 dX11_bearsBy_6 (lv_at hl 4 rfl) ?_
  obtain ⟨G1, hf, hok⟩ := gOk_bind hok
  refine g_callV0 (κ := 11) fx hw (c_X11_lays l X τ n x0 (8 : Int32) x1 x2 x3 x4 G h0 hf) lv_RX11_128 ⟨rfl, rfl⟩ rfl rfl h0 rfl hl.1 rfl ⟨Nat.le_of_ble_eq_true rfl, Nat.le_of_ble_eq_true rfl⟩ (Nat.le_of_ble_eq_true rfl) ⟨Nat.le_of_ble_eq_true rfl, Nat.le_of_ble_eq_true rfl⟩ dX11_bearsBy_8 (fun H locs hw => ?_)
  refine lv_aload_n fx.1 fx.2.1 dX11_bearsBy_11 rfl (lv_at hl 0 rfl) ?_
  refine lv_bipush (v := 8) fx.1 fx.2.1 dX11_bearsBy_12 (by decide) ?_
  obtain ⟨v2, G3, hf, hok⟩ := gOk_bind2 hok
  refine g_callV0 (κ := 11) fx hw (c_X11_bearsOf l X τ n x0 (8 : Int32) G1 h0 hf) lv_RX11_303 ⟨rfl, rfl⟩ rfl rfl h0 rfl hl.1 rfl ⟨Nat.le_of_ble_eq_true rfl, Nat.le_of_ble_eq_true rfl⟩ (Nat.le_of_ble_eq_true rfl) ⟨Nat.le_of_ble_eq_true rfl, Nat.le_of_ble_eq_true rfl⟩ dX11_bearsBy_14 (fun H locs hw => ?_)
  cases gOk_some hok
  exact g_iret fx hw hr dX11_bearsBy_17
