/-- k new objects of a kind, from z on, laid into the row a -/
def fT (τ : gτ) (z κ : Nat) : Nat → gτ
  | 0 => τ
  | k + 1 => gnt (fT τ z κ k) (z + k) κ 0
def fG (G : gG) (z a : Nat) : Nat → gG
  | 0 => G
  | k + 1 => gsq (gnw (fG G z a k) (z + k)) a k (some (z + k))
def gBd (τ : gτ) (z : Nat) : Prop := ∀ a q, τ a = some q → a < z
theorem gBd.of {X : gX} {τ : gτ} {G : gG} {H : Heap} {locs : List Loc} {z : Nat} (hw : gHw X τ G H locs) (hz : H.size = z) : gBd τ z := fun a q h => by have := hw.1.lt h; omega
theorem fT_eq {τ : gτ} {z κ : Nat} : ∀ k a, a < z → fT τ z κ k a = τ a := by
  intro k
  induction k with
  | zero => intro a _; rfl
  | succ k ih => intro a ha; show gnt _ _ _ _ a = _; unfold gnt; rw [if_neg (by omega)]; exact ih a ha
theorem fT_le {τ : gτ} {z κ : Nat} (h : gBd τ z) (k : Nat) : gLe τ (fT τ z κ k) := fun a q ha => by rw [fT_eq k a (h a q ha)]; exact ha
theorem fG_gr {G : gG} {z a c f x : Nat} (hx : x < z) : ∀ k, gr (fG G z a k) c f x = gr G c f x := by
  intro k
  induction k with
  | zero => rfl
  | succ k ih =>
    show gr (gsq (gnw _ _) _ _ _) c f x = _
    rw [← ih]
    simp [gr, gsq, gnw, show ¬ x = z + k by omega]
theorem gn_fT {τ : gτ} {z κ a : Nat} (ha : a < z) (k : Nat) : gn (fT τ z κ k) a = gn τ a := by unfold gn; rw [fT_eq k a ha]
theorem dX6_init_0 : decode cX6_init 0 = .ok (.aload_n 0, 1) := by decide +kernel
theorem dX6_init_1 : decode cX6_init 1 = .ok (.invokespecial 3, 3) := by decide +kernel
theorem dX6_init_4 : decode cX6_init 4 = .ok (.aload_n 0, 1) := by decide +kernel
theorem dX6_init_5 : decode cX6_init 5 = .ok (.bipush 10, 2) := by decide +kernel
theorem dX6_init_7 : decode cX6_init 7 = .ok (.anewarray 9, 3) := by decide +kernel
theorem dX6_init_10 : decode cX6_init 10 = .ok (.putfield 11, 3) := by decide +kernel
theorem dX6_init_13 : decode cX6_init 13 = .ok (.aload_n 0, 1) := by decide +kernel
theorem dX6_init_14 : decode cX6_init 14 = .ok (.bipush 8, 2) := by decide +kernel
theorem dX6_init_16 : decode cX6_init 16 = .ok (.anewarray 17, 3) := by decide +kernel
theorem dX6_init_19 : decode cX6_init 19 = .ok (.putfield 19, 3) := by decide +kernel
theorem dX6_init_22 : decode cX6_init 22 = .ok (.aload_n 0, 1) := by decide +kernel
theorem dX6_init_23 : decode cX6_init 23 = .ok (.bipush 8, 2) := by decide +kernel
theorem dX6_init_25 : decode cX6_init 25 = .ok (.anewarray 23, 3) := by decide +kernel
theorem dX6_init_28 : decode cX6_init 28 = .ok (.putfield 25, 3) := by decide +kernel
theorem dX6_init_31 : decode cX6_init 31 = .ok (.aload_n 0, 1) := by decide +kernel
theorem dX6_init_32 : decode cX6_init 32 = .ok (.new 29, 3) := by decide +kernel
theorem dX6_init_35 : decode cX6_init 35 = .ok (.dup, 1) := by decide +kernel
theorem dX6_init_36 : decode cX6_init 36 = .ok (.invokespecial 31, 3) := by decide +kernel
theorem dX6_init_39 : decode cX6_init 39 = .ok (.putfield 32, 3) := by decide +kernel
theorem dX6_init_42 : decode cX6_init 42 = .ok (.aload_n 0, 1) := by decide +kernel
theorem dX6_init_43 : decode cX6_init 43 = .ok (.iconst 1, 1) := by decide +kernel
theorem dX6_init_44 : decode cX6_init 44 = .ok (.putfield 36, 3) := by decide +kernel
theorem dX6_init_47 : decode cX6_init 47 = .ok (.iconst 0, 1) := by decide +kernel
theorem dX6_init_48 : decode cX6_init 48 = .ok (.istore_n 1, 1) := by decide +kernel
theorem dX6_init_49 : decode cX6_init 49 = .ok (.iload_n 1, 1) := by decide +kernel
theorem dX6_init_50 : decode cX6_init 50 = .ok (.bipush 10, 2) := by decide +kernel
theorem dX6_init_52 : decode cX6_init 52 = .ok (.if_icmp .ge 22, 3) := by decide +kernel
theorem dX6_init_55 : decode cX6_init 55 = .ok (.aload_n 0, 1) := by decide +kernel
theorem dX6_init_56 : decode cX6_init 56 = .ok (.getfield 11, 3) := by decide +kernel
theorem dX6_init_59 : decode cX6_init 59 = .ok (.iload_n 1, 1) := by decide +kernel
theorem dX6_init_60 : decode cX6_init 60 = .ok (.new 9, 3) := by decide +kernel
theorem dX6_init_63 : decode cX6_init 63 = .ok (.dup, 1) := by decide +kernel
theorem dX6_init_64 : decode cX6_init 64 = .ok (.invokespecial 40, 3) := by decide +kernel
theorem dX6_init_67 : decode cX6_init 67 = .ok (.aastore, 1) := by decide +kernel
theorem dX6_init_68 : decode cX6_init 68 = .ok (.iinc 1 1, 3) := by decide +kernel
theorem dX6_init_71 : decode cX6_init 71 = .ok (.goto (-22), 3) := by decide +kernel
theorem dX6_init_74 : decode cX6_init 74 = .ok (.iconst 0, 1) := by decide +kernel
theorem dX6_init_75 : decode cX6_init 75 = .ok (.istore_n 1, 1) := by decide +kernel
theorem dX6_init_76 : decode cX6_init 76 = .ok (.iload_n 1, 1) := by decide +kernel
theorem dX6_init_77 : decode cX6_init 77 = .ok (.bipush 8, 2) := by decide +kernel
theorem dX6_init_79 : decode cX6_init 79 = .ok (.if_icmp .ge 22, 3) := by decide +kernel
theorem dX6_init_82 : decode cX6_init 82 = .ok (.aload_n 0, 1) := by decide +kernel
theorem dX6_init_83 : decode cX6_init 83 = .ok (.getfield 19, 3) := by decide +kernel
theorem dX6_init_86 : decode cX6_init 86 = .ok (.iload_n 1, 1) := by decide +kernel
theorem dX6_init_87 : decode cX6_init 87 = .ok (.new 17, 3) := by decide +kernel
theorem dX6_init_90 : decode cX6_init 90 = .ok (.dup, 1) := by decide +kernel
theorem dX6_init_91 : decode cX6_init 91 = .ok (.invokespecial 41, 3) := by decide +kernel
theorem dX6_init_94 : decode cX6_init 94 = .ok (.aastore, 1) := by decide +kernel
theorem dX6_init_95 : decode cX6_init 95 = .ok (.iinc 1 1, 3) := by decide +kernel
theorem dX6_init_98 : decode cX6_init 98 = .ok (.goto (-22), 3) := by decide +kernel
theorem dX6_init_101 : decode cX6_init 101 = .ok (.iconst 0, 1) := by decide +kernel
theorem dX6_init_102 : decode cX6_init 102 = .ok (.istore_n 1, 1) := by decide +kernel
theorem dX6_init_103 : decode cX6_init 103 = .ok (.iload_n 1, 1) := by decide +kernel
theorem dX6_init_104 : decode cX6_init 104 = .ok (.bipush 8, 2) := by decide +kernel
theorem dX6_init_106 : decode cX6_init 106 = .ok (.if_icmp .ge 22, 3) := by decide +kernel
theorem dX6_init_109 : decode cX6_init 109 = .ok (.aload_n 0, 1) := by decide +kernel
theorem dX6_init_110 : decode cX6_init 110 = .ok (.getfield 25, 3) := by decide +kernel
theorem dX6_init_113 : decode cX6_init 113 = .ok (.iload_n 1, 1) := by decide +kernel
theorem dX6_init_114 : decode cX6_init 114 = .ok (.new 23, 3) := by decide +kernel
theorem dX6_init_117 : decode cX6_init 117 = .ok (.dup, 1) := by decide +kernel
theorem dX6_init_118 : decode cX6_init 118 = .ok (.invokespecial 42, 3) := by decide +kernel
theorem dX6_init_121 : decode cX6_init 121 = .ok (.aastore, 1) := by decide +kernel
theorem dX6_init_122 : decode cX6_init 122 = .ok (.iinc 1 1, 3) := by decide +kernel
theorem dX6_init_125 : decode cX6_init 125 = .ok (.goto (-22), 3) := by decide +kernel
theorem dX6_init_128 : decode cX6_init 128 = .ok (.return_, 1) := by decide +kernel
def rm_X6_init : Room := { frames := 2, cells := 31, slots := 473, locals := 100 }
theorem ln_RX6_9 : gLn RX6 9 9 4 := ⟨(RX9, TX9, 4), rfl, rfl, wA_t (wt1 (List.mem_of_getElem? (i := 105) (by decide +kernel))) (by decide +kernel), wA_t (wt1 (List.mem_of_getElem? (i := 128) (by decide +kernel))) (by decide +kernel), wA_t (wt1 (List.mem_of_getElem? (i := 8) (by decide +kernel))) (by decide +kernel)⟩
theorem li_X9_init : gLi yX9_init cX9_init 1 0 := ⟨wA_t (wt1 (List.mem_of_getElem? (i := 131) (by decide +kernel))) (by decide +kernel), wA_t (wt1 (List.mem_of_getElem? (i := 8) (by decide +kernel))) (by decide +kernel), wA_t (wt1 (List.mem_of_getElem? (i := 130) (by decide +kernel))) (by decide +kernel), rfl, by decide +kernel, by decide +kernel, by decide +kernel⟩
theorem lmn_RX6_40 : Cond.methodLinkNest RX6 40 yX9_init RX10 ∈ lw_tbl := List.mem_append_right _ (wt1 (List.mem_of_getElem? (i := 129) (by decide +kernel)))
theorem ln_RX6_17 : gLn RX6 17 5 10 := ⟨(RX5, TX5, 10), rfl, rfl, wA_t (wt1 (List.mem_of_getElem? (i := 107) (by decide +kernel))) (by decide +kernel), wA_t (wt1 (List.mem_of_getElem? (i := 157) (by decide +kernel))) (by decide +kernel), wA_t (wt1 (List.mem_of_getElem? (i := 9) (by decide +kernel))) (by decide +kernel)⟩
theorem li_X5_init : gLi yX5_init cX5_init 1 0 := ⟨wA_t (wt1 (List.mem_of_getElem? (i := 160) (by decide +kernel))) (by decide +kernel), wA_t (wt1 (List.mem_of_getElem? (i := 9) (by decide +kernel))) (by decide +kernel), wA_t (wt1 (List.mem_of_getElem? (i := 159) (by decide +kernel))) (by decide +kernel), rfl, by decide +kernel, by decide +kernel, by decide +kernel⟩
theorem lmn_RX6_41 : Cond.methodLinkNest RX6 41 yX5_init RX10 ∈ lw_tbl := List.mem_append_right _ (wt1 (List.mem_of_getElem? (i := 158) (by decide +kernel)))
theorem ln_RX6_23 : gLn RX6 23 4 3 := ⟨(RX4, TX4, 3), rfl, rfl, wA_t (wt1 (List.mem_of_getElem? (i := 109) (by decide +kernel))) (by decide +kernel), wA_t (wt1 (List.mem_of_getElem? (i := 226) (by decide +kernel))) (by decide +kernel), wA_t (wt1 (List.mem_of_getElem? (i := 10) (by decide +kernel))) (by decide +kernel)⟩
theorem li_X4_init : gLi yX4_init cX4_init 1 0 := ⟨wA_t (wt1 (List.mem_of_getElem? (i := 229) (by decide +kernel))) (by decide +kernel), wA_t (wt1 (List.mem_of_getElem? (i := 10) (by decide +kernel))) (by decide +kernel), wA_t (wt1 (List.mem_of_getElem? (i := 228) (by decide +kernel))) (by decide +kernel), rfl, by decide +kernel, by decide +kernel, by decide +kernel⟩
theorem lmn_RX6_42 : Cond.methodLinkNest RX6 42 yX4_init RX10 ∈ lw_tbl := List.mem_append_right _ (wt1 (List.mem_of_getElem? (i := 227) (by decide +kernel)))
set_option maxHeartbeats 4000000 in
set_option maxRecDepth 100000 in
theorem w_X6_y {X : gX} {p : Program} {l : Launch} {e : Env} {s : State} {m : MethodId} {args : Array Value} {below : List Frame} {meth : Method} {c : Code} (fx : gFx X p s m args meth c cX6_init 2 RX6) (hS : gS0 l X) (x0 ya z : Nat) (τ : gτ) (G : gG) {Q : State → Prop} (hbd : gBd τ z) (h0 : gK τ x0 6) (hya : τ ya = some (17, 10)) (hgr : gr G 6 0 x0 = some ya)
    (hx : ∀ (H : Heap) (locs : List Loc) (ls : Array Slot), gHw X (fT τ z 9 10) (fG G z ya 10) H locs → H.size = z + 10 → lv_has ls 2 [(1, .int (nI 10)), (0, .ref x0)] → W p l e rm_X6_init s m args below meth c H locs (5 + 10) (329 + 10 * 4) Q (F0 m 74 ls [])) :
    ∀ (j i : Nat), j + i = 10 → ∀ (H : Heap) (locs : List Loc) (ls : Array Slot), gHw X (fT τ z 9 i) (fG G z ya i) H locs → H.size = z + i → lv_has ls 2 [(1, .int (nI i)), (0, .ref x0)] → W p l e rm_X6_init s m args below meth c H locs (5 + i) (329 + i * 4) Q (F0 m 49 ls []) := by
  have hx0 : x0 < z := by obtain ⟨n, hn⟩ := h0; exact hbd _ _ hn
  have hyz : ya < z := hbd _ _ hya
  intro j
  induction j with
  | zero =>
    intro i hi H locs ls hw hz hl
    have hi : i = 10 := by omega
    subst hi
    refine lv_iload_n fx.1 fx.2.1 dX6_init_49 rfl (lv_at hl 0 rfl) ?_
    refine lv_bipush (v := 10) fx.1 fx.2.1 dX6_init_50 (by decide) ?_
    refine lv_icmp_ge (tgt := 74) fx.1 fx.2.1 dX6_init_52 (by decide) (fun _ => ?_) (fun h => absurd (by decide) h)
    exact hx _ _ _ hw hz hl
  | succ j ih =>
    intro i hi H locs ls hw hz hl
    have hlt : i < 10 := by omega
    have h0i : gK (fT τ z 9 i) x0 6 := gK.up (fT_le hbd i) h0
    have hyi : gK (fT τ z 9 i) ya 17 := gK.up (fT_le hbd i) ⟨_, hya⟩
    refine lv_iload_n fx.1 fx.2.1 dX6_init_49 rfl (lv_at hl 0 rfl) ?_
    refine lv_bipush (v := 10) fx.1 fx.2.1 dX6_init_50 (by decide) ?_
    refine lv_icmp_ge (tgt := 74) fx.1 fx.2.1 dX6_init_52 (by decide) (fun h => absurd h (nI_ge hlt (by decide))) (fun _ => ?_)
    refine lv_aload_n fx.1 fx.2.1 dX6_init_55 rfl (lv_at hl 1 rfl) ?_
    refine gc_getk fx hw h0i lf_RX6_11 rfl (b := ya) (by rw [fG_gr hx0]; exact hgr) dX6_init_56 ?_
    refine lv_iload_n fx.1 fx.2.1 dX6_init_59 rfl (lv_at hl 0 rfl) ?_
    refine gc_new fx hw hz ln_RX6_9 ⟨by simp only [rm_X6_init]; omega, by simp only [rm_X6_init]; omega⟩ dX6_init_60 (fun H hle hw hz => ?_)
    have hk : gK (gnt (fT τ z 9 i) (z + i) 9 0) (z + i) 9 := gnt_new
    refine lv_dup fx.1 fx.2.1 dX6_init_63 rfl ?_
    refine gc_callIN (As := []) (rest := [.ref (z + i), .int (nI i), .ref ya]) fx hS hw hz (c_X9_init l X hS (z + i) _ _ _ hk) li_X9_init lmn_RX6_40 rfl hl.1 rfl ⟨Nat.le_of_ble_eq_true rfl, Nat.le_of_ble_eq_true rfl⟩ (Nat.le_of_ble_eq_true rfl) ⟨by simp only [rm_X6_init, rm_X9_init]; omega, by simp only [rm_X6_init, rm_X9_init]; omega⟩ dX6_init_64 (fun H locs hw hz => ?_)
    have hyi2 := gK.up hle hyi
    refine gc_aast fx hw hz 17 5 9 (r := (RX9, TX9, 4)) hyi2 (by decide) (by decide) rfl rfl rfl hk (by
      have hgn : gn (gnt (fT τ z 9 i) (z + i) 9 0) ya = 10 := by
        unfold gn
        have : gnt (fT τ z 9 i) (z + i) 9 0 ya = some (17, 10) := hle _ _ (fT_le hbd i _ _ hya)
        rw [this]
      show gIn _ (gn (gnt (fT τ z 9 i) (z + i) 9 0) ya)
      rw [hgn]
      exact vp_in_nI hlt (by decide)) dX6_init_67 (fun H locs hw hz => ?_)
    refine lv_iinc (v := nI (i + 1)) (lv' := [(1, .int (nI (i + 1))), (0, .ref x0)]) fx.1 fx.2.1 dX6_init_68 hl (k := 0) rfl (by rw [← nI_1]; rfl) (by decide) rfl (fun ls hl => ?_)
    refine lv_goto (tgt := 49) fx.1 fx.2.1 dX6_init_71 (by decide) ?_
    refine W.widen (k := 5 + (i + 1)) (n := 329 + (i + 1) * 4) (by simp only [rm_X9_init]; omega) (by simp only [rm_X9_init]; omega) ?_
    rw [nI_clamp (show i < 2 ^ 31 by omega)] at hw
    exact ih (i + 1) (by omega) _ _ _ hw hz hl
set_option maxHeartbeats 4000000 in
set_option maxRecDepth 100000 in
theorem w_X6_r {X : gX} {p : Program} {l : Launch} {e : Env} {s : State} {m : MethodId} {args : Array Value} {below : List Frame} {meth : Method} {c : Code} (fx : gFx X p s m args meth c cX6_init 2 RX6) (hS : gS0 l X) (x0 ya z : Nat) (τ : gτ) (G : gG) {Q : State → Prop} (hbd : gBd τ z) (h0 : gK τ x0 6) (hya : τ ya = some (15, 8)) (hgr : gr G 6 1 x0 = some ya)
    (hx : ∀ (H : Heap) (locs : List Loc) (ls : Array Slot), gHw X (fT τ z 5 8) (fG G z ya 8) H locs → H.size = z + 8 → lv_has ls 2 [(1, .int (nI 8)), (0, .ref x0)] → W p l e rm_X6_init s m args below meth c H locs (15 + 8) (369 + 8 * 10) Q (F0 m 101 ls [])) :
    ∀ (j i : Nat), j + i = 8 → ∀ (H : Heap) (locs : List Loc) (ls : Array Slot), gHw X (fT τ z 5 i) (fG G z ya i) H locs → H.size = z + i → lv_has ls 2 [(1, .int (nI i)), (0, .ref x0)] → W p l e rm_X6_init s m args below meth c H locs (15 + i) (369 + i * 10) Q (F0 m 76 ls []) := by
  have hx0 : x0 < z := by obtain ⟨n, hn⟩ := h0; exact hbd _ _ hn
  have hyz : ya < z := hbd _ _ hya
  intro j
  induction j with
  | zero =>
    intro i hi H locs ls hw hz hl
    have hi : i = 8 := by omega
    subst hi
    refine lv_iload_n fx.1 fx.2.1 dX6_init_76 rfl (lv_at hl 0 rfl) ?_
    refine lv_bipush (v := 8) fx.1 fx.2.1 dX6_init_77 (by decide) ?_
    refine lv_icmp_ge (tgt := 101) fx.1 fx.2.1 dX6_init_79 (by decide) (fun _ => ?_) (fun h => absurd (by decide) h)
    exact hx _ _ _ hw hz hl
  | succ j ih =>
    intro i hi H locs ls hw hz hl
    have hlt : i < 8 := by omega
    have h0i : gK (fT τ z 5 i) x0 6 := gK.up (fT_le hbd i) h0
    have hyi : gK (fT τ z 5 i) ya 15 := gK.up (fT_le hbd i) ⟨_, hya⟩
    refine lv_iload_n fx.1 fx.2.1 dX6_init_76 rfl (lv_at hl 0 rfl) ?_
    refine lv_bipush (v := 8) fx.1 fx.2.1 dX6_init_77 (by decide) ?_
    refine lv_icmp_ge (tgt := 101) fx.1 fx.2.1 dX6_init_79 (by decide) (fun h => absurd h (nI_ge hlt (by decide))) (fun _ => ?_)
    refine lv_aload_n fx.1 fx.2.1 dX6_init_82 rfl (lv_at hl 1 rfl) ?_
    refine gc_getk fx hw h0i lf_RX6_19 rfl (b := ya) (by rw [fG_gr hx0]; exact hgr) dX6_init_83 ?_
    refine lv_iload_n fx.1 fx.2.1 dX6_init_86 rfl (lv_at hl 0 rfl) ?_
    refine gc_new fx hw hz ln_RX6_17 ⟨by simp only [rm_X6_init]; omega, by simp only [rm_X6_init]; omega⟩ dX6_init_87 (fun H hle hw hz => ?_)
    have hk : gK (gnt (fT τ z 5 i) (z + i) 5 0) (z + i) 5 := gnt_new
    refine lv_dup fx.1 fx.2.1 dX6_init_90 rfl ?_
    refine gc_callIN (As := []) (rest := [.ref (z + i), .int (nI i), .ref ya]) fx hS hw hz (c_X5_init l X hS (z + i) _ _ _ hk) li_X5_init lmn_RX6_41 rfl hl.1 rfl ⟨Nat.le_of_ble_eq_true rfl, Nat.le_of_ble_eq_true rfl⟩ (Nat.le_of_ble_eq_true rfl) ⟨by simp only [rm_X6_init, rm_X5_init]; omega, by simp only [rm_X6_init, rm_X5_init]; omega⟩ dX6_init_91 (fun H locs hw hz => ?_)
    have hyi2 := gK.up hle hyi
    refine gc_aast fx hw hz 15 3 5 (r := (RX5, TX5, 10)) hyi2 (by decide) (by decide) rfl rfl rfl hk (by
      have hgn : gn (gnt (fT τ z 5 i) (z + i) 5 0) ya = 8 := by
        unfold gn
        have : gnt (fT τ z 5 i) (z + i) 5 0 ya = some (15, 8) := hle _ _ (fT_le hbd i _ _ hya)
        rw [this]
      show gIn _ (gn (gnt (fT τ z 5 i) (z + i) 5 0) ya)
      rw [hgn]
      exact vp_in_nI hlt (by decide)) dX6_init_94 (fun H locs hw hz => ?_)
    refine lv_iinc (v := nI (i + 1)) (lv' := [(1, .int (nI (i + 1))), (0, .ref x0)]) fx.1 fx.2.1 dX6_init_95 hl (k := 0) rfl (by rw [← nI_1]; rfl) (by decide) rfl (fun ls hl => ?_)
    refine lv_goto (tgt := 76) fx.1 fx.2.1 dX6_init_98 (by decide) ?_
    refine W.widen (k := 15 + (i + 1)) (n := 369 + (i + 1) * 10) (by simp only [rm_X5_init]; omega) (by simp only [rm_X5_init]; omega) ?_
    rw [nI_clamp (show i < 2 ^ 31 by omega)] at hw
    exact ih (i + 1) (by omega) _ _ _ hw hz hl
set_option maxHeartbeats 4000000 in
set_option maxRecDepth 100000 in
theorem w_X6_o {X : gX} {p : Program} {l : Launch} {e : Env} {s : State} {m : MethodId} {args : Array Value} {below : List Frame} {meth : Method} {c : Code} (fx : gFx X p s m args meth c cX6_init 2 RX6) (hS : gS0 l X) (x0 ya z : Nat) (τ : gτ) (G : gG) {Q : State → Prop} (hbd : gBd τ z) (h0 : gK τ x0 6) (hya : τ ya = some (14, 8)) (hgr : gr G 6 2 x0 = some ya)
    (hx : ∀ (H : Heap) (locs : List Loc) (ls : Array Slot), gHw X (fT τ z 4 8) (fG G z ya 8) H locs → H.size = z + 8 → lv_has ls 2 [(1, .int (nI 8)), (0, .ref x0)] → W p l e rm_X6_init s m args below meth c H locs (23 + 8) (449 + 8 * 3) Q (F0 m 128 ls [])) :
    ∀ (j i : Nat), j + i = 8 → ∀ (H : Heap) (locs : List Loc) (ls : Array Slot), gHw X (fT τ z 4 i) (fG G z ya i) H locs → H.size = z + i → lv_has ls 2 [(1, .int (nI i)), (0, .ref x0)] → W p l e rm_X6_init s m args below meth c H locs (23 + i) (449 + i * 3) Q (F0 m 103 ls []) := by
  have hx0 : x0 < z := by obtain ⟨n, hn⟩ := h0; exact hbd _ _ hn
  have hyz : ya < z := hbd _ _ hya
  intro j
  induction j with
  | zero =>
    intro i hi H locs ls hw hz hl
    have hi : i = 8 := by omega
    subst hi
    refine lv_iload_n fx.1 fx.2.1 dX6_init_103 rfl (lv_at hl 0 rfl) ?_
    refine lv_bipush (v := 8) fx.1 fx.2.1 dX6_init_104 (by decide) ?_
    refine lv_icmp_ge (tgt := 128) fx.1 fx.2.1 dX6_init_106 (by decide) (fun _ => ?_) (fun h => absurd (by decide) h)
    exact hx _ _ _ hw hz hl
  | succ j ih =>
    intro i hi H locs ls hw hz hl
    have hlt : i < 8 := by omega
    have h0i : gK (fT τ z 4 i) x0 6 := gK.up (fT_le hbd i) h0
    have hyi : gK (fT τ z 4 i) ya 14 := gK.up (fT_le hbd i) ⟨_, hya⟩
    refine lv_iload_n fx.1 fx.2.1 dX6_init_103 rfl (lv_at hl 0 rfl) ?_
    refine lv_bipush (v := 8) fx.1 fx.2.1 dX6_init_104 (by decide) ?_
    refine lv_icmp_ge (tgt := 128) fx.1 fx.2.1 dX6_init_106 (by decide) (fun h => absurd h (nI_ge hlt (by decide))) (fun _ => ?_)
    refine lv_aload_n fx.1 fx.2.1 dX6_init_109 rfl (lv_at hl 1 rfl) ?_
    refine gc_getk fx hw h0i lf_RX6_25 rfl (b := ya) (by rw [fG_gr hx0]; exact hgr) dX6_init_110 ?_
    refine lv_iload_n fx.1 fx.2.1 dX6_init_113 rfl (lv_at hl 0 rfl) ?_
    refine gc_new fx hw hz ln_RX6_23 ⟨by simp only [rm_X6_init]; omega, by simp only [rm_X6_init]; omega⟩ dX6_init_114 (fun H hle hw hz => ?_)
    have hk : gK (gnt (fT τ z 4 i) (z + i) 4 0) (z + i) 4 := gnt_new
    refine lv_dup fx.1 fx.2.1 dX6_init_117 rfl ?_
    refine gc_callIN (As := []) (rest := [.ref (z + i), .int (nI i), .ref ya]) fx hS hw hz (c_X4_init l X hS (z + i) _ _ _ hk) li_X4_init lmn_RX6_42 rfl hl.1 rfl ⟨Nat.le_of_ble_eq_true rfl, Nat.le_of_ble_eq_true rfl⟩ (Nat.le_of_ble_eq_true rfl) ⟨by simp only [rm_X6_init, rm_X4_init]; omega, by simp only [rm_X6_init, rm_X4_init]; omega⟩ dX6_init_118 (fun H locs hw hz => ?_)
    have hyi2 := gK.up hle hyi
    refine gc_aast fx hw hz 14 2 4 (r := (RX4, TX4, 3)) hyi2 (by decide) (by decide) rfl rfl rfl hk (by
      have hgn : gn (gnt (fT τ z 4 i) (z + i) 4 0) ya = 8 := by
        unfold gn
        have : gnt (fT τ z 4 i) (z + i) 4 0 ya = some (14, 8) := hle _ _ (fT_le hbd i _ _ hya)
        rw [this]
      show gIn _ (gn (gnt (fT τ z 4 i) (z + i) 4 0) ya)
      rw [hgn]
      exact vp_in_nI hlt (by decide)) dX6_init_121 (fun H locs hw hz => ?_)
    refine lv_iinc (v := nI (i + 1)) (lv' := [(1, .int (nI (i + 1))), (0, .ref x0)]) fx.1 fx.2.1 dX6_init_122 hl (k := 0) rfl (by rw [← nI_1]; rfl) (by decide) rfl (fun ls hl => ?_)
    refine lv_goto (tgt := 103) fx.1 fx.2.1 dX6_init_125 (by decide) ?_
    refine W.widen (k := 23 + (i + 1)) (n := 449 + (i + 1) * 3) (by simp only [rm_X4_init]; omega) (by simp only [rm_X4_init]; omega) ?_
    rw [nI_clamp (show i < 2 ^ 31 by omega)] at hw
    exact ih (i + 1) (by omega) _ _ _ hw hz hl
