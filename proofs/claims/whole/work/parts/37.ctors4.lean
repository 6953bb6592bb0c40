theorem dX3_init_0 : decode cX3_init 0 = .ok (.aload_n 0, 1) := by decide +kernel
theorem dX3_init_1 : decode cX3_init 1 = .ok (.invokespecial 3, 3) := by decide +kernel
theorem dX3_init_4 : decode cX3_init 4 = .ok (.aload_n 0, 1) := by decide +kernel
theorem dX3_init_5 : decode cX3_init 5 = .ok (.bipush 12, 2) := by decide +kernel
theorem dX3_init_7 : decode cX3_init 7 = .ok (.anewarray 9, 3) := by decide +kernel
theorem dX3_init_10 : decode cX3_init 10 = .ok (.putfield 11, 3) := by decide +kernel
theorem dX3_init_13 : decode cX3_init 13 = .ok (.iconst 0, 1) := by decide +kernel
theorem dX3_init_14 : decode cX3_init 14 = .ok (.istore_n 1, 1) := by decide +kernel
theorem dX3_init_15 : decode cX3_init 15 = .ok (.iload_n 1, 1) := by decide +kernel
theorem dX3_init_16 : decode cX3_init 16 = .ok (.bipush 12, 2) := by decide +kernel
theorem dX3_init_18 : decode cX3_init 18 = .ok (.if_icmp .ge 22, 3) := by decide +kernel
theorem dX3_init_21 : decode cX3_init 21 = .ok (.aload_n 0, 1) := by decide +kernel
theorem dX3_init_22 : decode cX3_init 22 = .ok (.getfield 11, 3) := by decide +kernel
theorem dX3_init_25 : decode cX3_init 25 = .ok (.iload_n 1, 1) := by decide +kernel
theorem dX3_init_26 : decode cX3_init 26 = .ok (.new 9, 3) := by decide +kernel
theorem dX3_init_29 : decode cX3_init 29 = .ok (.dup, 1) := by decide +kernel
theorem dX3_init_30 : decode cX3_init 30 = .ok (.invokespecial 17, 3) := by decide +kernel
theorem dX3_init_33 : decode cX3_init 33 = .ok (.aastore, 1) := by decide +kernel
theorem dX3_init_34 : decode cX3_init 34 = .ok (.iinc 1 1, 3) := by decide +kernel
theorem dX3_init_37 : decode cX3_init 37 = .ok (.goto (-22), 3) := by decide +kernel
theorem dX3_init_40 : decode cX3_init 40 = .ok (.return_, 1) := by decide +kernel
theorem ln_RX3_9 : gLn RX3 9 6 15 := ⟨(RX6, TX6, 15), rfl, rfl, wA_t (wt1 (List.mem_of_getElem? (i := 98) (by decide +kernel))) (by decide +kernel), wA_t (wt1 (List.mem_of_getElem? (i := 100) (by decide +kernel))) (by decide +kernel), wA_t (wt1 (List.mem_of_getElem? (i := 6) (by decide +kernel))) (by decide +kernel)⟩
theorem lq_RX3_11 : gLq RX3 11 3 0 := ⟨(RX3, TX3, 3), rfl, by decide, wA_t (wt2 (List.mem_of_getElem? (i := 74) (by decide +kernel))) (by decide +kernel), rfl, rfl, rfl⟩
theorem li_X6_init : gLi yX6_init cX6_init 2 0 := ⟨wA_t (wt1 (List.mem_of_getElem? (i := 103) (by decide +kernel))) (by decide +kernel), wA_t (wt1 (List.mem_of_getElem? (i := 6) (by decide +kernel))) (by decide +kernel), wA_t (wt1 (List.mem_of_getElem? (i := 102) (by decide +kernel))) (by decide +kernel), rfl, by decide +kernel, by decide +kernel, by decide +kernel⟩
theorem lml_RX3_17 : Cond.methodLink RX3 17 yX6_init ∈ wA := wA_t (wt1 (List.mem_of_getElem? (i := 101) (by decide +kernel))) (by decide +kernel)
theorem lcn_RX3_9 : Cond.classLink RX3 9 RX6 ∈ wA := wA_t (wt1 (List.mem_of_getElem? (i := 98) (by decide +kernel))) (by decide +kernel)
theorem lao_RX3_9 : Cond.arrayOver (.object RX6) ∈ lw_tbl := List.mem_append_right _ (wt1 (List.mem_of_getElem? (i := 99) (by decide +kernel)))
theorem lo_RX3_3 : Cond.methodLink RX3 3 Lib.objectInit ∈ wA := wA_t (wt1 (List.mem_of_getElem? (i := 97) (by decide +kernel))) (by decide +kernel)
theorem iT6_eq {τ : gτ} {z a : Nat} (h : a < z) : iT_X6_init z τ a = τ a := by
  unfold iT_X6_init
  rw [fT_eq _ _ (by omega), fT_eq _ _ (by omega), fT_eq _ _ (by omega)]
  simp [iT6a, iT_X0_init, gnt, show a ≠ z by omega, show a ≠ z + 1 by omega, show a ≠ z + 2 by omega, show a ≠ z + 3 by omega, show a ≠ z + 4 by omega]
theorem iG6_gr {G : gG} {z x0 x c f : Nat} (hx : x < z) (hne : x ≠ x0) : gr (iG_X6_init z x0 G) c f x = gr G c f x := by
  unfold iG_X6_init
  rw [fG_gr (by omega), fG_gr (by omega), fG_gr (by omega)]
  simp [iG6a, iG_X0_init, gr, gsr, gsi, gnw, hne, show x ≠ z by omega, show x ≠ z + 1 by omega, show x ≠ z + 2 by omega, show x ≠ z + 3 by omega, show x ≠ z + 4 by omega]
theorem iT6_le {τ : gτ} {z : Nat} (h : gBd τ z) : gLe τ (iT_X6_init z τ) := fun a q ha => by rw [iT6_eq (h a q ha)]; exact ha
/-- k new Sheds, from z on, laid into the row a -/
def mT (τ : gτ) (z : Nat) : Nat → gτ
  | 0 => τ
  | k + 1 => iT_X6_init (z + 32 * k + 1) (gnt (mT τ z k) (z + 32 * k) 6 0)
def mG (G : gG) (z a : Nat) : Nat → gG
  | 0 => G
  | k + 1 => gsq (iG_X6_init (z + 32 * k + 1) (z + 32 * k) (gnw (mG G z a k) (z + 32 * k))) a k (some (z + 32 * k))
theorem mT_eq {τ : gτ} {z : Nat} : ∀ k a, a < z → mT τ z k a = τ a := by
  intro k
  induction k with
  | zero => intro a _; rfl
  | succ k ih =>
    intro a ha
    show iT_X6_init _ _ a = _
    rw [iT6_eq (by omega)]
    unfold gnt
    rw [if_neg (by omega)]
    exact ih a ha
theorem mT_le {τ : gτ} {z : Nat} (h : gBd τ z) (k : Nat) : gLe τ (mT τ z k) := fun a q ha => by rw [mT_eq k a (h a q ha)]; exact ha
theorem mG_gr {G : gG} {z a c f x : Nat} (hx : x < z) : ∀ k, gr (mG G z a k) c f x = gr G c f x := by
  intro k
  induction k with
  | zero => rfl
  | succ k ih =>
    show gr (gsq (iG_X6_init _ _ _) _ _ _) c f x = _
    have e : gr (gsq (iG_X6_init (z + 32 * k + 1) (z + 32 * k) (gnw (mG G z a k) (z + 32 * k))) a k (some (z + 32 * k))) c f x = gr (iG_X6_init (z + 32 * k + 1) (z + 32 * k) (gnw (mG G z a k) (z + 32 * k))) c f x := rfl
    rw [e, iG6_gr (by omega) (by omega), ← ih]
    simp [gr, gnw, show ¬ x = z + 32 * k by omega]
def rm_X3_init : Room := { frames := 3, cells := 385, slots := 5868, locals := 160 }
set_option maxHeartbeats 4000000 in
set_option maxRecDepth 100000 in
theorem w_X3 {X : gX} {p : Program} {l : Launch} {e : Env} {s : State} {m : MethodId} {args : Array Value} {below : List Frame} {meth : Method} {c : Code} (fx : gFx X p s m args meth c cX3_init 2 RX3) (hS : gS0 l X) (x0 ya z : Nat) (τ : gτ) (G : gG) {Q : State → Prop} (hbd : gBd τ z) (h0 : gK τ x0 3) (hya : τ ya = some (16, 12)) (hgr : gr G 3 0 x0 = some ya)
    (hx : ∀ (H : Heap) (locs : List Loc) (ls : Array Slot), gHw X (mT τ z 12) (mG G z ya 12) H locs → H.size = z + 32 * 12 → lv_has ls 2 [(1, .int (nI 12)), (0, .ref x0)] → W p l e rm_X3_init s m args below meth c H locs (1 + 32 * 12) (12 + 12 * 488) Q (F0 m 40 ls [])) :
    ∀ (j i : Nat), j + i = 12 → ∀ (H : Heap) (locs : List Loc) (ls : Array Slot), gHw X (mT τ z i) (mG G z ya i) H locs → H.size = z + 32 * i → lv_has ls 2 [(1, .int (nI i)), (0, .ref x0)] → W p l e rm_X3_init s m args below meth c H locs (1 + 32 * i) (12 + i * 488) Q (F0 m 15 ls []) := by
  have hx0 : x0 < z := by obtain ⟨n, hn⟩ := h0; exact hbd _ _ hn
  intro j
  induction j with
  | zero =>
    intro i hi H locs ls hw hz hl
    have hi : i = 12 := by omega
    subst hi
    refine lv_iload_n fx.1 fx.2.1 dX3_init_15 rfl (lv_at hl 0 rfl) ?_
    refine lv_bipush (v := 12) fx.1 fx.2.1 dX3_init_16 (by decide) ?_
    refine lv_icmp_ge (tgt := 40) fx.1 fx.2.1 dX3_init_18 (by decide) (fun _ => ?_) (fun h => absurd (by decide) h)
    exact hx _ _ _ hw hz hl
  | succ j ih =>
    intro i hi H locs ls hw hz hl
    have hlt : i < 12 := by omega
    have h0i : gK (mT τ z i) x0 3 := gK.up (mT_le hbd i) h0
    have hyi : gK (mT τ z i) ya 16 := gK.up (mT_le hbd i) ⟨_, hya⟩
    refine lv_iload_n fx.1 fx.2.1 dX3_init_15 rfl (lv_at hl 0 rfl) ?_
    refine lv_bipush (v := 12) fx.1 fx.2.1 dX3_init_16 (by decide) ?_
    refine lv_icmp_ge (tgt := 40) fx.1 fx.2.1 dX3_init_18 (by decide) (fun h => absurd h (nI_ge hlt (by decide))) (fun _ => ?_)
    refine lv_aload_n fx.1 fx.2.1 dX3_init_21 rfl (lv_at hl 1 rfl) ?_
    refine gc_getk fx hw h0i lf_RX3_11 rfl (b := ya) (by rw [mG_gr hx0]; exact hgr) dX3_init_22 ?_
    refine lv_iload_n fx.1 fx.2.1 dX3_init_25 rfl (lv_at hl 0 rfl) ?_
    refine gc_new fx hw hz ln_RX3_9 ⟨by simp only [rm_X3_init]; omega, by simp only [rm_X3_init]; omega⟩ dX3_init_26 (fun H hle hw hz => ?_)
    have hk : gK (gnt (mT τ z i) (z + 32 * i) 6 0) (z + 32 * i) 6 := gnt_new
    have hbd2 := gBd.of hw hz
    refine lv_dup fx.1 fx.2.1 dX3_init_29 rfl ?_
    refine gc_callI (As := []) (rest := [.ref (z + 32 * i), .int (nI i), .ref ya]) fx hw hz (c_X6_init l X hS (z + 32 * i) _ _ _ hk) li_X6_init lml_RX3_17 rfl hl.1 rfl ⟨Nat.le_of_ble_eq_true rfl, Nat.le_of_ble_eq_true rfl⟩ (Nat.le_of_ble_eq_true rfl) ⟨by simp only [rm_X3_init, rm_X6_init]; omega, by simp only [rm_X3_init, rm_X6_init]; omega⟩ dX3_init_30 (fun H locs hw hz => ?_)
    have hle2 := iT6_le hbd2
    have hyi2 := gK.up hle2 (gK.up hle hyi)
    refine gc_aast fx hw hz 16 4 6 (r := (RX6, TX6, 15)) hyi2 (by decide) (by decide) rfl rfl rfl (gK.up hle2 hk) (by
      have hgn : gn (iT_X6_init (z + 32 * i + 1) (gnt (mT τ z i) (z + 32 * i) 6 0)) ya = 12 := by
        unfold gn
        have : iT_X6_init (z + 32 * i + 1) (gnt (mT τ z i) (z + 32 * i) 6 0) ya = some (16, 12) := hle2 _ _ (hle _ _ (mT_le hbd i _ _ hya))
        rw [this]
      rw [hgn]
      exact vp_in_nI hlt (by decide)) dX3_init_33 (fun H locs hw hz => ?_)
    refine lv_iinc (v := nI (i + 1)) (lv' := [(1, .int (nI (i + 1))), (0, .ref x0)]) fx.1 fx.2.1 dX3_init_34 hl (k := 0) rfl (by rw [← nI_1]; rfl) (by decide) rfl (fun ls hl => ?_)
    refine lv_goto (tgt := 15) fx.1 fx.2.1 dX3_init_37 (by decide) ?_
    refine W.widen (k := 1 + 32 * (i + 1)) (n := 12 + (i + 1) * 488) (by simp only [rm_X6_init]; omega) (by simp only [rm_X6_init]; omega) ?_
    rw [nI_clamp (show i < 2 ^ 31 by omega)] at hw
    exact ih (i + 1) (by omega) _ _ _ hw (hz.trans (by omega)) hl
def iT_X3_init (z : Nat) (τ : gτ) : gτ := mT (gnt τ z 16 12) (z + 1) 12
def iG_X3_init (z x0 : Nat) (G : gG) : gG := mG (gsr (gnw G z) 3 0 x0 (some z)) (z + 1) z 12
set_option maxHeartbeats 4000000 in
set_option maxRecDepth 100000 in
theorem c_X3_init (l : Launch) (X : gX) (hS : gS0 l X) (x0 : Nat) (τ : gτ) (G : gG) (z : Nat) (h0 : gK τ x0 3) : gMC l X yX3_init cX3_init 2 rm_X3_init [.ref x0] τ G z (iT_X3_init z τ) (iG_X3_init z x0 G) (z + 385) := by
  refine g_bodyC (by decide +kernel) (Nat.le_of_ble_eq_true rfl) ?_
  intro p e s m args below meth c ls fx hr hin hw hz hl
  have fx : gFx X p s m args meth c cX3_init 2 RX3 := fx
  have hl : lv_has ls 2 [(0, .ref x0)] := hl
  show W p l e rm_X3_init s m args below meth c s.heap [] 0 0 (MQ below (gQC X (iT_X3_init z τ) (iG_X3_init z x0 G) (z + 385)) args s 385 5868 (gFree X)) _
  refine lv_aload_n fx.1 fx.2.1 dX3_init_0 rfl (lv_at hl 0 rfl) ?_
  refine W.objInit fx.1 fx.2.1 fx.2.2.2.1 (fx.2.2.2.2.1 _ lo_RX3_3) (fx.2.2.2.2.1 _ lo_inst) (fx.2.2.2.2.1 _ lo_code) rfl (hl.1.trans fx.2.2.1.symm) rfl dX3_init_1 (Nat.le_of_ble_eq_true rfl) (Nat.le_of_ble_eq_true rfl) ?_
  refine W.eq (g2 := F0 m 4 ls []) rfl ?_
  refine lv_aload_n fx.1 fx.2.1 dX3_init_4 rfl (lv_at hl 0 rfl) ?_
  refine lv_bipush (v := 12) fx.1 fx.2.1 dX3_init_5 (by decide) ?_
  refine gc_newq fx hS hw hz 4 16 rfl ⟨by decide, by decide⟩ lcn_RX3_9 lao_RX3_9 (N := 12) (by decide) (by decide) (by decide) ⟨Nat.le_of_ble_eq_true rfl, Nat.le_of_ble_eq_true rfl⟩ dX3_init_7 (fun H hle hw hz => ?_)
  have h0 := gK.up hle h0
  refine gc_putF fx hin hw hz h0 lq_RX3_11 rfl ⟨rfl, rfl⟩ gnt_new dX3_init_10 (fun H locs hw hz => ?_)
  refine lv_iconst (v := 0) fx.1 fx.2.1 dX3_init_13 (by decide) ?_
  refine lv_istore_n (lv' := [(1, .int 0), (0, .ref x0)]) fx.1 fx.2.1 dX3_init_14 rfl hl (by decide) rfl (fun ls hl => ?_)
  have hbd := gBd.of hw hz
  refine W.widen (k := 1 + 32 * 0) (n := 12 + 0 * 488) (Nat.le_of_ble_eq_true rfl) (Nat.le_of_ble_eq_true rfl) ?_
  refine w_X3 fx hS x0 z (z + 1) (gnt τ z 16 12) (gsr (gnw G z) 3 0 x0 (some z)) hbd h0 (by simp [gnt]) (by simp [gr, gsr]) (fun H locs ls hw hz hl => ?_) 12 0 rfl _ _ _ hw hz hl
  have hz : H.size = z + 385 := hz.trans (by omega)
  exact gc_vret fx hw hz hr dX3_init_40
