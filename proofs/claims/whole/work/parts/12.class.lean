theorem dX7_beginText_0 : decode cX7_beginText 0 = .ok (.aload_n 0, 1) := by decide +kernel
theorem dX7_beginText_1 : decode cX7_beginText 1 = .ok (.iconst (-1), 1) := by decide +kernel
theorem dX7_beginText_2 : decode cX7_beginText 2 = .ok (.putfield 15, 3) := by decide +kernel
theorem dX7_beginText_5 : decode cX7_beginText 5 = .ok (.aload_n 0, 1) := by decide +kernel
theorem dX7_beginText_6 : decode cX7_beginText 6 = .ok (.iconst 0, 1) := by decide +kernel
theorem dX7_beginText_7 : decode cX7_beginText 7 = .ok (.putfield 22, 3) := by decide +kernel
theorem dX7_beginText_10 : decode cX7_beginText 10 = .ok (.aload_n 0, 1) := by decide +kernel
theorem dX7_beginText_11 : decode cX7_beginText 11 = .ok (.iconst 0, 1) := by decide +kernel
theorem dX7_beginText_12 : decode cX7_beginText 12 = .ok (.putfield 25, 3) := by decide +kernel
theorem dX7_beginText_15 : decode cX7_beginText 15 = .ok (.aload_n 0, 1) := by decide +kernel
theorem dX7_beginText_16 : decode cX7_beginText 16 = .ok (.invokevirtual 28, 3) := by decide +kernel
theorem dX7_beginText_19 : decode cX7_beginText 19 = .ok (.return_, 1) := by decide +kernel
theorem lp_RX7_15 : gLp RX7 15 7 2 := ⟨(RX7, TX7, 6), rfl, by decide, wA_t (wt1 (List.mem_of_getElem? (i := 45) (by decide +kernel))) (by decide +kernel), rfl, rfl⟩
theorem lv_RX7_28 : gLv RX7 28 RX7 yX7_advance cX7_advance 2 none 0 := gLv_of (wA_t (wt3 (List.mem_of_getElem? (i := 157) (by decide +kernel))) (by decide +kernel)) (wA_t (wt3 (List.mem_of_getElem? (i := 159) (by decide +kernel))) (by decide +kernel)) (wA_of (List.mem_append_left _ (List.mem_map.mpr ⟨(⟨"YearRope$Tape", "advance", "()V"⟩, 6), wp1 (List.mem_of_getElem? (i := 8) (by decide +kernel)), rfl⟩)) (by decide +kernel)) (wA_t (wt1 (List.mem_of_getElem? (i := 2) (by decide +kernel))) (by decide +kernel)) (wA_t (wt3 (List.mem_of_getElem? (i := 160) (by decide +kernel))) (by decide +kernel)) ⟨rfl, by decide +kernel, by decide +kernel, by decide +kernel⟩
def rm_X7_beginText : Room := { frames := 1, cells := 0, slots := 0, locals := 21 }
def f_X7_beginText (τ : gτ) (n : Nat) (x0 : Nat) (G : gG) : Option (gG) :=
  gLet (gsi G 7 2 x0 (-1 : Int32)) fun G1 =>
  gLet (gsi G1 7 3 x0 (0 : Int32)) fun G2 =>
  gLet (gsi G2 7 4 x0 (0 : Int32)) fun G3 =>
  (f_X7_advance τ n x0 G3).bind fun G4 =>
  some G4
set_option maxHeartbeats 4000000 in
set_option maxRecDepth 100000 in
theorem c_X7_beginText (l : Launch) (X : gX) (τ : gτ) (n : Nat) (x0 : Nat) (G : gG) (h0 : gK τ x0 7) {G' : gG} (h : f_X7_beginText τ n x0 G = some G') : gM l X τ yX7_beginText cX7_beginText 1 none rm_X7_beginText [.ref x0] G none G' := by
  refine g_body (by decide +kernel) (Nat.le_of_ble_eq_true rfl) ?_
  intro p e s m args below meth c ls fx hr hw hl
  have fx : gFx X p s m args meth c cX7_beginText 1 RX7 := fx
  have hl : lv_has ls 1 [(0, .ref x0)] := hl
  have hok : gOk (f_X7_beginText τ n x0 G) (fun q => q = G') := ⟨_, h, rfl⟩
  unfold f_X7_beginText at hok
  show W p l e rm_X7_beginText s m args below meth c s.heap [] 0 0 (MQ below (gQ X τ none G') args s 0 0 (gFree X)) _
  refine lv_aload_n fx.1 fx.2.1 dX7_beginText_0 rfl (lv_at hl 0 rfl) ?_
  refine lv_iconst (v := (-1)) fx.1 fx.2.1 dX7_beginText_1 (by decide) ?_
  refine g_puti fx hw h0 lp_RX7_15 rfl rfl dX7_beginText_2 hok (fun G1 H locs hw hok => ?_)
  refine lv_aload_n fx.1 fx.2.1 dX7_beginText_5 rfl (lv_at hl 0 rfl) ?_
  refine lv_iconst (v := 0) fx.1 fx.2.1 dX7_beginText_6 (by decide) ?_
  refine g_puti fx hw h0 lp_RX7_22 rfl rfl dX7_beginText_7 hok (fun G2 H locs hw hok => ?_)
  refine lv_aload_n fx.1 fx.2.1 dX7_beginText_10 rfl (lv_at hl 0 rfl) ?_
  refine lv_iconst (v := 0) fx.1 fx.2.1 dX7_beginText_11 (by decide) ?_
  refine g_puti fx hw h0 lp_RX7_25 rfl rfl dX7_beginText_12 hok (fun G3 H locs hw hok => ?_)
  refine lv_aload_n fx.1 fx.2.1 dX7_beginText_15 rfl (lv_at hl 0 rfl) ?_
  obtain ⟨G4, hf, hok⟩ := gOk_bind hok
  refine g_callV0 (κ := 7) fx hw (c_X7_advance l X τ n x0 G3 h0 hf) lv_RX7_28 ⟨rfl, rfl⟩ rfl rfl h0 rfl hl.1 rfl ⟨Nat.le_of_ble_eq_true rfl, Nat.le_of_ble_eq_true rfl⟩ (Nat.le_of_ble_eq_true rfl) ⟨Nat.le_of_ble_eq_true rfl, Nat.le_of_ble_eq_true rfl⟩ dX7_beginText_16 (fun H locs hw => ?_)
  cases gOk_some hok
  exact g_vret fx hw hr dX7_beginText_19
theorem dX7_isAtEnd_0 : decode cX7_isAtEnd 0 = .ok (.aload_n 0, 1) := by decide +kernel
theorem dX7_isAtEnd_1 : decode cX7_isAtEnd 1 = .ok (.getfield 22, 3) := by decide +kernel
theorem dX7_isAtEnd_4 : decode cX7_isAtEnd 4 = .ok (.aload_n 0, 1) := by decide +kernel
theorem dX7_isAtEnd_5 : decode cX7_isAtEnd 5 = .ok (.getfield 19, 3) := by decide +kernel
theorem dX7_isAtEnd_8 : decode cX7_isAtEnd 8 = .ok (.if_icmp .lt 7, 3) := by decide +kernel
theorem dX7_isAtEnd_11 : decode cX7_isAtEnd 11 = .ok (.iconst 1, 1) := by decide +kernel
theorem dX7_isAtEnd_12 : decode cX7_isAtEnd 12 = .ok (.goto 4, 3) := by decide +kernel
theorem dX7_isAtEnd_15 : decode cX7_isAtEnd 15 = .ok (.iconst 0, 1) := by decide +kernel
theorem dX7_isAtEnd_16 : decode cX7_isAtEnd 16 = .ok (.ireturn, 1) := by decide +kernel
def rm_X7_isAtEnd : Room := { frames := 0, cells := 0, slots := 0, locals := 0 }
def f_X7_isAtEnd (x0 : Nat) (G : gG) : Option (Int32) :=
  if (gi G 7 3 x0) < (gi G 7 1 x0) then (some (0))
  else (some (1))
set_option maxHeartbeats 4000000 in
set_option maxRecDepth 100000 in
theorem c_X7_isAtEnd (l : Launch) (X : gX) (τ : gτ) (x0 : Nat) (G : gG) (h0 : gK τ x0 7) {r : Int32}  (h : f_X7_isAtEnd x0 G = some r) : gM l X τ yX7_isAtEnd cX7_isAtEnd 1 (some .boolean) rm_X7_isAtEnd [.ref x0] G (some (.int r)) G := by
  refine g_body (by decide +kernel) (Nat.le_of_ble_eq_true rfl) ?_
  intro p e s m args below meth c ls fx hr hw hl
  have fx : gFx X p s m args meth c cX7_isAtEnd 1 RX7 := fx
  have hl : lv_has ls 1 [(0, .ref x0)] := hl
  have hok : gOk (f_X7_isAtEnd x0 G) (fun q => q = r) := ⟨_, h, rfl⟩
  unfold f_X7_isAtEnd at hok
  show W p l e rm_X7_isAtEnd s m args below meth c s.heap [] 0 0 (MQ below (gQ X τ (some (.int r)) G) args s 0 0 (gFree X)) _
  refine lv_aload_n fx.1 fx.2.1 dX7_isAtEnd_0 rfl (lv_at hl 0 rfl) ?_
  refine g_geti fx hw h0 lf_RX7_22 rfl dX7_isAtEnd_1 ?_
  refine lv_aload_n fx.1 fx.2.1 dX7_isAtEnd_4 rfl (lv_at hl 0 rfl) ?_
  refine g_geti fx hw h0 lf_RX7_19 rfl dX7_isAtEnd_5 ?_
  refine g_icmp_lt (tgt := 15) fx dX7_isAtEnd_8 (by decide) hok (fun hok => ?_) (fun hok => ?_)
  · refine lv_iconst (v := 0) fx.1 fx.2.1 dX7_isAtEnd_15 (by decide) ?_
    cases gOk_some hok
    exact g_zret fx hw hr (by decide) dX7_isAtEnd_16
  · refine lv_iconst (v := 1) fx.1 fx.2.1 dX7_isAtEnd_11 (by decide) ?_
    refine lv_goto (tgt := 16) fx.1 fx.2.1 dX7_isAtEnd_12 (by decide) ?_
    cases gOk_some hok
    exact g_zret fx hw hr (by decide) dX7_isAtEnd_16
theorem dX7_takeWord_0 : decode cX7_takeWord 0 = .ok (.aload_n 0, 1) := by decide +kernel
theorem dX7_takeWord_1 : decode cX7_takeWord 1 = .ok (.getfield 15, 3) := by decide +kernel
theorem dX7_takeWord_4 : decode cX7_takeWord 4 = .ok (.iconst (-1), 1) := by decide +kernel
theorem dX7_takeWord_5 : decode cX7_takeWord 5 = .ok (.if_icmp .ne 14, 3) := by decide +kernel
theorem dX7_takeWord_8 : decode cX7_takeWord 8 = .ok (.aload_n 0, 1) := by decide +kernel
theorem dX7_takeWord_9 : decode cX7_takeWord 9 = .ok (.getfield 25, 3) := by decide +kernel
theorem dX7_takeWord_12 : decode cX7_takeWord 12 = .ok (.aload_n 1, 1) := by decide +kernel
theorem dX7_takeWord_13 : decode cX7_takeWord 13 = .ok (.invokevirtual 34, 3) := by decide +kernel
theorem dX7_takeWord_16 : decode cX7_takeWord 16 = .ok (.if_icmp .eq 5, 3) := by decide +kernel
theorem dX7_takeWord_19 : decode cX7_takeWord 19 = .ok (.iconst 0, 1) := by decide +kernel
theorem dX7_takeWord_20 : decode cX7_takeWord 20 = .ok (.ireturn, 1) := by decide +kernel
theorem dX7_takeWord_21 : decode cX7_takeWord 21 = .ok (.iconst 0, 1) := by decide +kernel
theorem dX7_takeWord_22 : decode cX7_takeWord 22 = .ok (.istore_n 2, 1) := by decide +kernel
theorem dX7_takeWord_23 : decode cX7_takeWord 23 = .ok (.iload_n 2, 1) := by decide +kernel
theorem dX7_takeWord_24 : decode cX7_takeWord 24 = .ok (.aload_n 0, 1) := by decide +kernel
theorem dX7_takeWord_25 : decode cX7_takeWord 25 = .ok (.getfield 25, 3) := by decide +kernel
theorem dX7_takeWord_28 : decode cX7_takeWord 28 = .ok (.if_icmp .ge 30, 3) := by decide +kernel
theorem dX7_takeWord_31 : decode cX7_takeWord 31 = .ok (.aload_n 0, 1) := by decide +kernel
theorem dX7_takeWord_32 : decode cX7_takeWord 32 = .ok (.getfield 9, 3) := by decide +kernel
theorem dX7_takeWord_35 : decode cX7_takeWord 35 = .ok (.aload_n 0, 1) := by decide +kernel
theorem dX7_takeWord_36 : decode cX7_takeWord 36 = .ok (.getfield 22, 3) := by decide +kernel
theorem dX7_takeWord_39 : decode cX7_takeWord 39 = .ok (.iload_n 2, 1) := by decide +kernel
theorem dX7_takeWord_40 : decode cX7_takeWord 40 = .ok (.iadd, 1) := by decide +kernel
theorem dX7_takeWord_41 : decode cX7_takeWord 41 = .ok (.iaload, 1) := by decide +kernel
theorem dX7_takeWord_42 : decode cX7_takeWord 42 = .ok (.aload_n 1, 1) := by decide +kernel
theorem dX7_takeWord_43 : decode cX7_takeWord 43 = .ok (.iload_n 2, 1) := by decide +kernel
theorem dX7_takeWord_44 : decode cX7_takeWord 44 = .ok (.invokevirtual 39, 3) := by decide +kernel
theorem dX7_takeWord_47 : decode cX7_takeWord 47 = .ok (.if_icmp .eq 5, 3) := by decide +kernel
theorem dX7_takeWord_50 : decode cX7_takeWord 50 = .ok (.iconst 0, 1) := by decide +kernel
theorem dX7_takeWord_51 : decode cX7_takeWord 51 = .ok (.ireturn, 1) := by decide +kernel
theorem dX7_takeWord_52 : decode cX7_takeWord 52 = .ok (.iinc 2 1, 3) := by decide +kernel
theorem dX7_takeWord_55 : decode cX7_takeWord 55 = .ok (.goto (-32), 3) := by decide +kernel
theorem dX7_takeWord_58 : decode cX7_takeWord 58 = .ok (.aload_n 0, 1) := by decide +kernel
theorem dX7_takeWord_59 : decode cX7_takeWord 59 = .ok (.invokevirtual 28, 3) := by decide +kernel
theorem dX7_takeWord_62 : decode cX7_takeWord 62 = .ok (.iconst 1, 1) := by decide +kernel
theorem dX7_takeWord_63 : decode cX7_takeWord 63 = .ok (.ireturn, 1) := by decide +kernel
theorem lf_RX7_15 : gLf RX7 15 7 2 := ⟨(RX7, TX7, 6), rfl, by decide, wA_t (wt1 (List.mem_of_getElem? (i := 45) (by decide +kernel))) (by decide +kernel), rfl⟩
theorem lv_RX7_34 : gLv RX7 34 RJ0 yJ0_length_8abf5 cJ0_length_8abf5 1 (some .int) 0 := gLv_of (wA_t (wt3 (List.mem_of_getElem? (i := 174) (by decide +kernel))) (by decide +kernel)) (wA_t (wt3 (List.mem_of_getElem? (i := 175) (by decide +kernel))) (by decide +kernel)) (wA_t (wt3 (List.mem_of_getElem? (i := 176) (by decide +kernel))) (by decide +kernel)) (wA_t (wt1 (List.mem_of_getElem? (i := 14) (by decide +kernel))) (by decide +kernel)) (wA_t (wt3 (List.mem_of_getElem? (i := 177) (by decide +kernel))) (by decide +kernel)) ⟨rfl, by decide +kernel, by decide +kernel, by decide +kernel⟩
theorem lv_RX7_39 : gLv RX7 39 RJ0 yJ0_charAt_5068e cJ0_charAt_5068e 2 (some .char) 1 := gLv_of (wA_t (wt3 (List.mem_of_getElem? (i := 184) (by decide +kernel))) (by decide +kernel)) (wA_t (wt3 (List.mem_of_getElem? (i := 185) (by decide +kernel))) (by decide +kernel)) (wA_t (wt3 (List.mem_of_getElem? (i := 186) (by decide +kernel))) (by decide +kernel)) (wA_t (wt1 (List.mem_of_getElem? (i := 14) (by decide +kernel))) (by decide +kernel)) (wA_t (wt3 (List.mem_of_getElem? (i := 187) (by decide +kernel))) (by decide +kernel)) ⟨rfl, by decide +kernel, by decide +kernel, by decide +kernel⟩
def rm_X7_takeWord : Room := { frames := 4, cells := 0, slots := 0, locals := 160 }
def b_X7_takeWord_23 (τ : gτ) (n : Nat) (x0 : Nat) (x1 : List Int32) (x2 : Int32) (G : gG) : Option ((Int32) ⊕ ((Unit) ⊕ (Unit))) :=
  if (gi G 7 4 x0) ≤ x2 then (some (.inr (.inl ())))
  else ((gr G 7 0 x0).bind fun a1 =>
  gchk (gIn ((gi G 7 3 x0) + x2) (gn τ a1)) <|
  gchk (gIn x2 (List.length x1)) <|
  if (ge G a1 (Int32.toNatClampNeg ((gi G 7 3 x0) + x2))) = (gch x1 x2) then (gLet (x2 + 1) fun v2 =>
  some (.inl v2))
  else (some (.inr (.inr ()))))
def l_X7_takeWord_23 (τ : gτ) (n : Nat) (x0 : Nat) (x1 : List Int32) (x2 : Int32) (G : gG) : Option ((Unit) ⊕ (Unit)) :=
  gIter (fun (q : Int32) => b_X7_takeWord_23 τ n x0 x1 q G) n x2
def k_X7_takeWord_58 (τ : gτ) (n : Nat) (x0 : Nat)  (G : gG) : Option (Int32 × gG) :=
  (f_X7_advance τ n x0 G).bind fun G3 =>
  some (1, G3)
def f_X7_takeWord (τ : gτ) (n : Nat) (x0 : Nat) (x1 : List Int32) (G : gG) : Option (Int32 × gG) :=
  if (gi G 7 2 x0) = (-1 : Int32) then (if (gi G 7 4 x0) = (nI (List.length x1)) then ((l_X7_takeWord_23 τ n x0 x1 (0 : Int32) G).bind fun q => match q with
  | .inl q => (k_X7_takeWord_58 τ n x0  G)
  | .inr q => (some (0, G)))
  else (some (0, G)))
  else (some (0, G))
set_option maxHeartbeats 4000000 in
set_option maxRecDepth 100000 in
theorem w_b_X7_takeWord_23 {X : gX} {τ : gτ} {p : Program} {l : Launch} {e : Env} {s : State} {m : MethodId} {args : Array Value} {below : List Frame} {meth : Method} {c : Code} (fx : gFx X p s m args meth c cX7_takeWord 3 RX7) (hS : gS0 l X) (n : Nat) (x0 : Nat) (x1 : List Int32) (x2 : Int32) (h0 : gK τ x0 7) {w1 : Nat} (h_w1 : gStr X w1 x1) {Q : State → Prop} {K : ((Int32) ⊕ ((Unit) ⊕ (Unit))) → Prop} {G : gG} {H : Heap} {locs : List Loc} {ls : Array Slot} (hw : gHw X τ G H locs) (hl : lv_has ls 3 [(0, .ref x0), (1, .ref w1), (2, .int x2)]) (hok : gOk (b_X7_takeWord_23 τ n x0 x1 x2 G) K) (hc : ∀ (y2 : Int32) (H : Heap) (locs : List Loc) (ls : Array Slot), gHw X τ G H locs → lv_has ls 3 [(0, .ref x0), (1, .ref w1), (2, .int y2)] → K (.inl y2) → W p l e rm_X7_takeWord s m args below meth c H locs 0 0 Q (F0 m 23 ls [])) (hx0 : ∀ (H : Heap) (locs : List Loc) (ls : Array Slot), gHw X τ G H locs → lv_has ls 3 [(0, .ref x0)] → K (.inr (.inl ())) → W p l e rm_X7_takeWord s m args below meth c H locs 0 0 Q (F0 m 58 ls [])) (hx1 : ∀ (H : Heap) (locs : List Loc) (ls : Array Slot), gHw X τ G H locs → lv_has ls 3 [] → K (.inr (.inr ())) → W p l e rm_X7_takeWord s m args below meth c H locs 0 0 Q (F0 m 50 ls [])) : W p l e rm_X7_takeWord s m args below meth c H locs 0 0 Q (F0 m 23 ls []) := by
  unfold b_X7_takeWord_23 at hok
  refine lv_iload_n fx.1 fx.2.1 dX7_takeWord_23 rfl (lv_at hl 2 rfl) ?_
  refine lv_aload_n fx.1 fx.2.1 dX7_takeWord_24 rfl (lv_at hl 0 rfl) ?_
  refine g_geti fx hw h0 lf_RX7_25 rfl dX7_takeWord_25 ?_
  refine g_icmp_ge (tgt := 58) fx dX7_takeWord_28 (by decide) hok (fun hok => ?_) (fun hok => ?_)
  · exact hx0   _ _ _  hw (lv_sub hl [0] rfl) (gOk_some hok)
  · refine lv_aload_n fx.1 fx.2.1 dX7_takeWord_31 rfl (lv_at hl 0 rfl) ?_
    refine g_getr fx hw h0 lf_RX7_9 rfl dX7_takeWord_32 hok (fun a1 h_a1 hok => ?_)
    refine lv_aload_n fx.1 fx.2.1 dX7_takeWord_35 rfl (lv_at hl 0 rfl) ?_
    refine g_geti fx hw h0 lf_RX7_22 rfl dX7_takeWord_36 ?_
    refine lv_iload_n fx.1 fx.2.1 dX7_takeWord_39 rfl (lv_at hl 2 rfl) ?_
    refine lv_iadd fx.1 fx.2.1 dX7_takeWord_40 ?_
    refine g_iald fx hw h_a1 dX7_takeWord_41 hok (fun hok => ?_)
    refine lv_aload_n fx.1 fx.2.1 dX7_takeWord_42 rfl (lv_at hl 1 rfl) ?_
    refine lv_iload_n fx.1 fx.2.1 dX7_takeWord_43 rfl (lv_at hl 2 rfl) ?_
    obtain ⟨hz, hok⟩ := gOk_chk hok
    refine g_callT0 (As := [.int x2]) fx hw (c_charAt l X τ hS h_w1 hz G) lv_RX7_39 ⟨rfl, rfl⟩ h_w1.1 rfl hl.1 rfl ⟨Nat.le_of_ble_eq_true rfl, Nat.le_of_ble_eq_true rfl⟩ (Nat.le_of_ble_eq_true rfl) ⟨Nat.le_of_ble_eq_true rfl, Nat.le_of_ble_eq_true rfl⟩ dX7_takeWord_44 (fun H locs hw => ?_)
    refine g_icmp_eq (tgt := 52) fx dX7_takeWord_47 (by decide) hok (fun hok => ?_) (fun hok => ?_)
    · obtain ⟨v2, e_v2, hok⟩ := gOk_let hok
      refine lv_iinc (v := v2) (lv' := [(2, .int v2), (0, .ref x0), (1, .ref w1)]) fx.1 fx.2.1 dX7_takeWord_52 hl (k := 2) rfl (by rw [e_v2]; rfl) (by decide) rfl (fun ls hl => ?_)
      refine lv_goto (tgt := 23) fx.1 fx.2.1 dX7_takeWord_55 (by decide) ?_
      exact hc v2  _ _ _  hw (lv_sub hl [1, 2, 0] rfl) (gOk_some hok)
    · exact hx1   _ _ _  hw (lv_sub hl [] rfl) (gOk_some hok)
theorem w_l_X7_takeWord_23 {X : gX} {τ : gτ} {p : Program} {l : Launch} {e : Env} {s : State} {m : MethodId} {args : Array Value} {below : List Frame} {meth : Method} {c : Code} (fx : gFx X p s m args meth c cX7_takeWord 3 RX7) (hS : gS0 l X) (n : Nat) (x0 : Nat) (x1 : List Int32) (h0 : gK τ x0 7) {w1 : Nat} (h_w1 : gStr X w1 x1) (G : gG) {Q : State → Prop} {K : ((Unit) ⊕ (Unit)) → Prop} (hx0 : ∀ (H : Heap) (locs : List Loc) (ls : Array Slot), gHw X τ G H locs → lv_has ls 3 [(0, .ref x0)] → K (.inl ()) → W p l e rm_X7_takeWord s m args below meth c H locs 0 0 Q (F0 m 58 ls [])) (hx1 : ∀ (H : Heap) (locs : List Loc) (ls : Array Slot), gHw X τ G H locs → lv_has ls 3 [] → K (.inr ()) → W p l e rm_X7_takeWord s m args below meth c H locs 0 0 Q (F0 m 50 ls [])) : ∀ (k : Nat) (x2 : Int32) (H : Heap) (locs : List Loc) (ls : Array Slot), gHw X τ G H locs → lv_has ls 3 [(0, .ref x0), (1, .ref w1), (2, .int x2)] → gOk (gIter (fun (q : Int32) => b_X7_takeWord_23 τ n x0 x1 q G) k x2) K → W p l e rm_X7_takeWord s m args below meth c H locs 0 0 Q (F0 m 23 ls []) := by
  intro k
  induction k with
  | zero =>
    intro x2  H locs ls hw hl hok
    exact gOk_iter0 hok
  | succ k hc =>
    intro x2  H locs ls hw hl hok
    exact w_b_X7_takeWord_23 fx hS n x0 x1 x2 h0 h_w1 hw hl (gOk_iter hok) hc hx0 hx1
set_option maxHeartbeats 4000000 in
set_option maxRecDepth 100000 in
theorem w_X7_takeWord_58 {X : gX} {τ : gτ} {p : Program} {l : Launch} {e : Env} {s : State} {m : MethodId} {args : Array Value} {below : List Frame} {meth : Method} {c : Code} (fx : gFx X p s m args meth c cX7_takeWord 3 RX7) (hS : gS0 l X) (n : Nat) (x0 : Nat)  (h0 : gK τ x0 7)  (hr : meth.sig.returnType = (some .boolean)) {r : Int32} {G' : gG} {G : gG} {H : Heap} {locs : List Loc} {ls : Array Slot} (hw : gHw X τ G H locs) (hl : lv_has ls 3 [(0, .ref x0)]) (hok : gOk (k_X7_takeWord_58 τ n x0  G) (fun q => q = (r, G')))  : W p l e rm_X7_takeWord s m args below meth c H locs 0 0 (MQ below (gQ X τ (some (.int r)) G') args s 0 0 (gFree X)) (F0 m 58 ls []) := by
  unfold k_X7_takeWord_58 at hok
  refine lv_aload_n fx.1 fx.2.1 dX7_takeWord_58 rfl (lv_at hl 0 rfl) ?_
  obtain ⟨G3, hf, hok⟩ := gOk_bind hok
  refine g_callV0 (κ := 7) fx hw (c_X7_advance l X τ n x0 G h0 hf) lv_RX7_28 ⟨rfl, rfl⟩ rfl rfl h0 rfl hl.1 rfl ⟨Nat.le_of_ble_eq_true rfl, Nat.le_of_ble_eq_true rfl⟩ (Nat.le_of_ble_eq_true rfl) ⟨Nat.le_of_ble_eq_true rfl, Nat.le_of_ble_eq_true rfl⟩ dX7_takeWord_59 (fun H locs hw => ?_)
  refine lv_iconst (v := 1) fx.1 fx.2.1 dX7_takeWord_62 (by decide) ?_
  cases gOk_some hok
  exact g_zret fx hw hr (by decide) dX7_takeWord_63
set_option maxHeartbeats 4000000 in
set_option maxRecDepth 100000 in
theorem c_X7_takeWord (l : Launch) (X : gX) (τ : gτ) (n : Nat) (hS : gS0 l X) (x0 : Nat) (x1 : List Int32) (G : gG) (h0 : gK τ x0 7) {w1 : Nat} (h_w1 : gStr X w1 x1) {r : Int32} {G' : gG} (h : f_X7_takeWord τ n x0 x1 G = some (r, G')) : gM l X τ yX7_takeWord cX7_takeWord 3 (some .boolean) rm_X7_takeWord [.ref x0, .ref w1] G (some (.int r)) G' := by
  refine g_body (by decide +kernel) (Nat.le_of_ble_eq_true rfl) ?_
  intro p e s m args below meth c ls fx hr hw hl
  have fx : gFx X p s m args meth c cX7_takeWord 3 RX7 := fx
  have hl : lv_has ls 3 [(0, .ref x0), (1, .ref w1)] := hl
  have hok : gOk (f_X7_takeWord τ n x0 x1 G) (fun q => q = (r, G')) := ⟨_, h, rfl⟩
  unfold f_X7_takeWord at hok
  show W p l e rm_X7_takeWord s m args below meth c s.heap [] 0 0 (MQ below (gQ X τ (some (.int r)) G') args s 0 0 (gFree X)) _
  refine lv_aload_n fx.1 fx.2.1 dX7_takeWord_0 rfl (lv_at hl 0 rfl) ?_
  refine g_geti fx hw h0 lf_RX7_15 rfl dX7_takeWord_1 ?_
  refine lv_iconst (v := (-1)) fx.1 fx.2.1 dX7_takeWord_4 (by decide) ?_
  refine g_icmp_ne (tgt := 19) fx dX7_takeWord_5 (by decide) hok (fun hok => ?_) (fun hok => ?_)
  · refine lv_aload_n fx.1 fx.2.1 dX7_takeWord_8 rfl (lv_at hl 0 rfl) ?_
    refine g_geti fx hw h0 lf_RX7_25 rfl dX7_takeWord_9 ?_
    refine lv_aload_n fx.1 fx.2.1 dX7_takeWord_12 rfl (lv_at hl 1 rfl) ?_
    refine g_callT0 fx hw (c_strLen l X τ hS h_w1 G) lv_RX7_34 ⟨rfl, rfl⟩ h_w1.1 rfl hl.1 rfl ⟨Nat.le_of_ble_eq_true rfl, Nat.le_of_ble_eq_true rfl⟩ (Nat.le_of_ble_eq_true rfl) ⟨Nat.le_of_ble_eq_true rfl, Nat.le_of_ble_eq_true rfl⟩ dX7_takeWord_13 (fun H locs hw => ?_)
    refine g_icmp_eq (tgt := 21) fx dX7_takeWord_16 (by decide) hok (fun hok => ?_) (fun hok => ?_)
    · refine lv_iconst (v := 0) fx.1 fx.2.1 dX7_takeWord_21 (by decide) ?_
      refine lv_istore_n (lv' := [(2, .int (0 : Int32)), (0, .ref x0), (1, .ref w1)]) fx.1 fx.2.1 dX7_takeWord_22 rfl hl (by decide) rfl (fun ls hl => ?_)
      refine w_l_X7_takeWord_23 fx hS n x0 x1 h0 h_w1 G ?_ ?_ n (0 : Int32)  _ _ _  hw (lv_sub hl [1, 2, 0] rfl) (gOk_bindK hok)
      · intro  H locs ls hw hl hok
        have hok : gOk (ρ := Int32 × gG) (k_X7_takeWord_58 τ n x0  G) _ := hok
        exact w_X7_takeWord_58 fx hS n x0  h0  hr hw (lv_sub hl [0] rfl) hok
      · intro  H locs ls hw hl hok
        have hok : gOk (ρ := Int32 × gG) (some (0, G)) _ := hok
        refine lv_iconst (v := 0) fx.1 fx.2.1 dX7_takeWord_50 (by decide) ?_
        cases gOk_some hok
        exact g_zret fx hw hr (by decide) dX7_takeWord_51
    · refine lv_iconst (v := 0) fx.1 fx.2.1 dX7_takeWord_19 (by decide) ?_
      cases gOk_some hok
      exact g_zret fx hw hr (by decide) dX7_takeWord_20
  · refine lv_iconst (v := 0) fx.1 fx.2.1 dX7_takeWord_19 (by decide) ?_
    cases gOk_some hok
    exact g_zret fx hw hr (by decide) dX7_takeWord_20
theorem dX7_refuse_0 : decode cX7_refuse 0 = .ok (.aload_n 0, 1) := by decide +kernel
theorem dX7_refuse_1 : decode cX7_refuse 1 = .ok (.getfield 15, 3) := by decide +kernel
theorem dX7_refuse_4 : decode cX7_refuse 4 = .ok (.iconst (-1), 1) := by decide +kernel
theorem dX7_refuse_5 : decode cX7_refuse 5 = .ok (.if_icmp .ne 11, 3) := by decide +kernel
theorem dX7_refuse_8 : decode cX7_refuse 8 = .ok (.aload_n 0, 1) := by decide +kernel
theorem dX7_refuse_9 : decode cX7_refuse 9 = .ok (.aload_n 0, 1) := by decide +kernel
theorem dX7_refuse_10 : decode cX7_refuse 10 = .ok (.getfield 22, 3) := by decide +kernel
theorem dX7_refuse_13 : decode cX7_refuse 13 = .ok (.putfield 15, 3) := by decide +kernel
theorem dX7_refuse_16 : decode cX7_refuse 16 = .ok (.return_, 1) := by decide +kernel
def rm_X7_refuse : Room := { frames := 0, cells := 0, slots := 0, locals := 0 }
def f_X7_refuse (x0 : Nat) (G : gG) : Option (gG) :=
  if (gi G 7 2 x0) = (-1 : Int32) then (gLet (gsi G 7 2 x0 (gi G 7 3 x0)) fun G1 =>
  some G1)
  else (some G)
set_option maxHeartbeats 4000000 in
set_option maxRecDepth 100000 in
theorem c_X7_refuse (l : Launch) (X : gX) (τ : gτ) (x0 : Nat) (G : gG) (h0 : gK τ x0 7) {G' : gG} (h : f_X7_refuse x0 G = some G') : gM l X τ yX7_refuse cX7_refuse 1 none rm_X7_refuse [.ref x0] G none G' := by
  refine g_body (by decide +kernel) (Nat.le_of_ble_eq_true rfl) ?_
  intro p e s m args below meth c ls fx hr hw hl
  have fx : gFx X p s m args meth c cX7_refuse 1 RX7 := fx
  have hl : lv_has ls 1 [(0, .ref x0)] := hl
  have hok : gOk (f_X7_refuse x0 G) (fun q => q = G') := ⟨_, h, rfl⟩
  unfold f_X7_refuse at hok
  show W p l e rm_X7_refuse s m args below meth c s.heap [] 0 0 (MQ below (gQ X τ none G') args s 0 0 (gFree X)) _
  refine lv_aload_n fx.1 fx.2.1 dX7_refuse_0 rfl (lv_at hl 0 rfl) ?_
  refine g_geti fx hw h0 lf_RX7_15 rfl dX7_refuse_1 ?_
  refine lv_iconst (v := (-1)) fx.1 fx.2.1 dX7_refuse_4 (by decide) ?_
  refine g_icmp_ne (tgt := 16) fx dX7_refuse_5 (by decide) hok (fun hok => ?_) (fun hok => ?_)
  · refine lv_aload_n fx.1 fx.2.1 dX7_refuse_8 rfl (lv_at hl 0 rfl) ?_
    refine lv_aload_n fx.1 fx.2.1 dX7_refuse_9 rfl (lv_at hl 0 rfl) ?_
    refine g_geti fx hw h0 lf_RX7_22 rfl dX7_refuse_10 ?_
    refine g_puti fx hw h0 lp_RX7_15 rfl rfl dX7_refuse_13 hok (fun G1 H locs hw hok => ?_)
    cases gOk_some hok
    exact g_vret fx hw hr dX7_refuse_16
  · cases gOk_some hok
    exact g_vret fx hw hr dX7_refuse_16
theorem dX7_needWord_0 : decode cX7_needWord 0 = .ok (.aload_n 0, 1) := by decide +kernel
theorem dX7_needWord_1 : decode cX7_needWord 1 = .ok (.aload_n 1, 1) := by decide +kernel
theorem dX7_needWord_2 : decode cX7_needWord 2 = .ok (.invokevirtual 43, 3) := by decide +kernel
theorem dX7_needWord_5 : decode cX7_needWord 5 = .ok (.ifCond .ne 7, 3) := by decide +kernel
theorem dX7_needWord_8 : decode cX7_needWord 8 = .ok (.aload_n 0, 1) := by decide +kernel
theorem dX7_needWord_9 : decode cX7_needWord 9 = .ok (.invokevirtual 47, 3) := by decide +kernel
theorem dX7_needWord_12 : decode cX7_needWord 12 = .ok (.return_, 1) := by decide +kernel
theorem lv_RX7_43 : gLv RX7 43 RX7 yX7_takeWord cX7_takeWord 3 (some .boolean) 1 := gLv_of (wA_t (wt3 (List.mem_of_getElem? (i := 239) (by decide +kernel))) (by decide +kernel)) (wA_t (wt3 (List.mem_of_getElem? (i := 171) (by decide +kernel))) (by decide +kernel)) (wA_t (wt3 (List.mem_of_getElem? (i := 172) (by decide +kernel))) (by decide +kernel)) (wA_t (wt1 (List.mem_of_getElem? (i := 2) (by decide +kernel))) (by decide +kernel)) (wA_t (wt3 (List.mem_of_getElem? (i := 173) (by decide +kernel))) (by decide +kernel)) ⟨rfl, by decide +kernel, by decide +kernel, by decide +kernel⟩
theorem lv_RX7_47 : gLv RX7 47 RX7 yX7_refuse cX7_refuse 1 none 0 := gLv_of (wA_t (wt3 (List.mem_of_getElem? (i := 230) (by decide +kernel))) (by decide +kernel)) (wA_t (wt3 (List.mem_of_getElem? (i := 231) (by decide +kernel))) (by decide +kernel)) (wA_t (wt3 (List.mem_of_getElem? (i := 232) (by decide +kernel))) (by decide +kernel)) (wA_t (wt1 (List.mem_of_getElem? (i := 2) (by decide +kernel))) (by decide +kernel)) (wA_t (wt3 (List.mem_of_getElem? (i := 233) (by decide +kernel))) (by decide +kernel)) ⟨rfl, by decide +kernel, by decide +kernel, by decide +kernel⟩
def rm_X7_needWord : Room := { frames := 5, cells := 0, slots := 0, locals := 182 }
def f_X7_needWord (τ : gτ) (n : Nat) (x0 : Nat) (x1 : List Int32) (G : gG) : Option (gG) :=
  gBind2 (f_X7_takeWord τ n x0 x1 G) fun v1 G2 =>
  if v1 = 0 then ((f_X7_refuse x0 G2).bind fun G3 =>
  some G3)
  else (some G2)
set_option maxHeartbeats 4000000 in
set_option maxRecDepth 100000 in
theorem c_X7_needWord (l : Launch) (X : gX) (τ : gτ) (n : Nat) (hS : gS0 l X) (x0 : Nat) (x1 : List Int32) (G : gG) (h0 : gK τ x0 7) {w1 : Nat} (h_w1 : gStr X w1 x1) {G' : gG} (h : f_X7_needWord τ n x0 x1 G = some G') : gM l X τ yX7_needWord cX7_needWord 2 none rm_X7_needWord [.ref x0, .ref w1] G none G' := by
  refine g_body (by decide +kernel) (Nat.le_of_ble_eq_true rfl) ?_
  intro p e s m args below meth c ls fx hr hw hl
  have fx : gFx X p s m args meth c cX7_needWord 2 RX7 := fx
  have hl : lv_has ls 2 [(0, .ref x0), (1, .ref w1)] := hl
  have hok : gOk (f_X7_needWord τ n x0 x1 G) (fun q => q = G') := ⟨_, h, rfl⟩
  unfold f_X7_needWord at hok
  show W p l e rm_X7_needWord s m args below meth c s.heap [] 0 0 (MQ below (gQ X τ none G') args s 0 0 (gFree X)) _
  refine lv_aload_n fx.1 fx.2.1 dX7_needWord_0 rfl (lv_at hl 0 rfl) ?_
  refine lv_aload_n fx.1 fx.2.1 dX7_needWord_1 rfl (lv_at hl 1 rfl) ?_
  obtain ⟨v1, G2, hf, hok⟩ := gOk_bind2 hok
  refine g_callV0 (κ := 7) fx hw (c_X7_takeWord l X τ n hS x0 x1 G h0 h_w1 hf) lv_RX7_43 ⟨rfl, rfl⟩ rfl rfl h0 rfl hl.1 rfl ⟨Nat.le_of_ble_eq_true rfl, Nat.le_of_ble_eq_true rfl⟩ (Nat.le_of_ble_eq_true rfl) ⟨Nat.le_of_ble_eq_true rfl, Nat.le_of_ble_eq_true rfl⟩ dX7_needWord_2 (fun H locs hw => ?_)
  refine g_if_ne (tgt := 12) fx dX7_needWord_5 (by decide) hok (fun hok => ?_) (fun hok => ?_)
  · refine lv_aload_n fx.1 fx.2.1 dX7_needWord_8 rfl (lv_at hl 0 rfl) ?_
    obtain ⟨G3, hf, hok⟩ := gOk_bind hok
    refine g_callV0 (κ := 7) fx hw (c_X7_refuse l X τ x0 G2 h0 hf) lv_RX7_47 ⟨rfl, rfl⟩ rfl rfl h0 rfl hl.1 rfl ⟨Nat.le_of_ble_eq_true rfl, Nat.le_of_ble_eq_true rfl⟩ (Nat.le_of_ble_eq_true rfl) ⟨Nat.le_of_ble_eq_true rfl, Nat.le_of_ble_eq_true rfl⟩ dX7_needWord_9 (fun H locs hw => ?_)
    cases gOk_some hok
    exact g_vret fx hw hr dX7_needWord_12
  · cases gOk_some hok
    exact g_vret fx hw hr dX7_needWord_12
theorem dX2_takeKind_0 : decode cX2_takeKind 0 = .ok (.aload_n 0, 1) := by decide +kernel
theorem dX2_takeKind_1 : decode cX2_takeKind 1 = .ok (.getfield 9, 3) := by decide +kernel
theorem dX2_takeKind_4 : decode cX2_takeKind 4 = .ok (.ldc 64, 2) := by decide +kernel
theorem dX2_takeKind_6 : decode cX2_takeKind 6 = .ok (.invokevirtual 33, 3) := by decide +kernel
theorem dX2_takeKind_9 : decode cX2_takeKind 9 = .ok (.ifCond .eq 5, 3) := by decide +kernel
theorem dX2_takeKind_12 : decode cX2_takeKind 12 = .ok (.iconst 0, 1) := by decide +kernel
theorem dX2_takeKind_13 : decode cX2_takeKind 13 = .ok (.ireturn, 1) := by decide +kernel
theorem dX2_takeKind_14 : decode cX2_takeKind 14 = .ok (.aload_n 0, 1) := by decide +kernel
theorem dX2_takeKind_15 : decode cX2_takeKind 15 = .ok (.getfield 9, 3) := by decide +kernel
theorem dX2_takeKind_18 : decode cX2_takeKind 18 = .ok (.ldc 66, 2) := by decide +kernel
theorem dX2_takeKind_20 : decode cX2_takeKind 20 = .ok (.invokevirtual 68, 3) := by decide +kernel
theorem dX2_takeKind_23 : decode cX2_takeKind 23 = .ok (.iconst 1, 1) := by decide +kernel
theorem dX2_takeKind_24 : decode cX2_takeKind 24 = .ok (.ireturn, 1) := by decide +kernel
theorem lf_RX2_9 : gLf RX2 9 2 0 := ⟨(RX2, TX2, 2), rfl, by decide, wA_t (wt1 (List.mem_of_getElem? (i := 85) (by decide +kernel))) (by decide +kernel), rfl⟩
theorem lv_RX2_33 : gLv RX2 33 RX7 yX7_takeWord cX7_takeWord 3 (some .boolean) 1 := gLv_of (wA_t (wt4 (List.mem_of_getElem? (i := 175) (by decide +kernel))) (by decide +kernel)) (wA_t (wt3 (List.mem_of_getElem? (i := 171) (by decide +kernel))) (by decide +kernel)) (wA_t (wt3 (List.mem_of_getElem? (i := 172) (by decide +kernel))) (by decide +kernel)) (wA_t (wt1 (List.mem_of_getElem? (i := 2) (by decide +kernel))) (by decide +kernel)) (wA_t (wt3 (List.mem_of_getElem? (i := 173) (by decide +kernel))) (by decide +kernel)) ⟨rfl, by decide +kernel, by decide +kernel, by decide +kernel⟩
theorem lv_RX2_68 : gLv RX2 68 RX7 yX7_needWord cX7_needWord 2 none 1 := gLv_of (wA_t (wt4 (List.mem_of_getElem? (i := 182) (by decide +kernel))) (by decide +kernel)) (wA_t (wt3 (List.mem_of_getElem? (i := 236) (by decide +kernel))) (by decide +kernel)) (wA_t (wt3 (List.mem_of_getElem? (i := 237) (by decide +kernel))) (by decide +kernel)) (wA_t (wt1 (List.mem_of_getElem? (i := 2) (by decide +kernel))) (by decide +kernel)) (wA_t (wt3 (List.mem_of_getElem? (i := 238) (by decide +kernel))) (by decide +kernel)) ⟨rfl, by decide +kernel, by decide +kernel, by decide +kernel⟩
def rm_X2_takeKind : Room := { frames := 6, cells := 0, slots := 0, locals := 203 }
def f_X2_takeKind (τ : gτ) (n : Nat) (x0 : Nat) (G : gG) : Option (Int32 × gG) :=
  (gr G 2 0 x0).bind fun a1 =>
  gBind2 (f_X7_takeWord τ n a1 s_bear G) fun v3 G4 =>
  if v3 = 0 then ((gr G4 2 0 x0).bind fun a5 =>
  (f_X7_needWord τ n a5 s_wear G4).bind fun G7 =>
  some (1, G7))
  else (some (0, G4))
set_option maxHeartbeats 4000000 in
set_option maxRecDepth 100000 in
theorem c_X2_takeKind (l : Launch) (X : gX) (τ : gτ) (n : Nat) (hS : gS0 l X) (x0 : Nat) (G : gG) (h0 : gK τ x0 2) {r : Int32} {G' : gG} (h : f_X2_takeKind τ n x0 G = some (r, G')) : gM l X τ yX2_takeKind cX2_takeKind 1 (some .int) rm_X2_takeKind [.ref x0] G (some (.int r)) G' := by
  refine g_body (by decide +kernel) (Nat.le_of_ble_eq_true rfl) ?_
  intro p e s m args below meth c ls fx hr hw hl
  have fx : gFx X p s m args meth c cX2_takeKind 1 RX2 := fx
  have hl : lv_has ls 1 [(0, .ref x0)] := hl
  have hok : gOk (f_X2_takeKind τ n x0 G) (fun q => q = (r, G')) := ⟨_, h, rfl⟩
  unfold f_X2_takeKind at hok
  show W p l e rm_X2_takeKind s m args below meth c s.heap [] 0 0 (MQ below (gQ X τ (some (.int r)) G') args s 0 0 (gFree X)) _
  refine lv_aload_n fx.1 fx.2.1 dX2_takeKind_0 rfl (lv_at hl 0 rfl) ?_
  refine g_getr fx hw h0 lf_RX2_9 rfl dX2_takeKind_1 hok (fun a1 h_a1 hok => ?_)
  refine g_ldcS fx hS gt_RX2_64 dX2_takeKind_4 (fun w2 h_w2 => ?_)
  obtain ⟨v3, G4, hf, hok⟩ := gOk_bind2 hok
  refine g_callV0 (κ := 7) fx hw (c_X7_takeWord l X τ n hS a1 s_bear G h_a1 h_w2 hf) lv_RX2_33 ⟨rfl, rfl⟩ rfl rfl h_a1 rfl hl.1 rfl ⟨Nat.le_of_ble_eq_true rfl, Nat.le_of_ble_eq_true rfl⟩ (Nat.le_of_ble_eq_true rfl) ⟨Nat.le_of_ble_eq_true rfl, Nat.le_of_ble_eq_true rfl⟩ dX2_takeKind_6 (fun H locs hw => ?_)
  refine g_if_eq (tgt := 14) fx dX2_takeKind_9 (by decide) hok (fun hok => ?_) (fun hok => ?_)
  · refine lv_aload_n fx.1 fx.2.1 dX2_takeKind_14 rfl (lv_at hl 0 rfl) ?_
    refine g_getr fx hw h0 lf_RX2_9 rfl dX2_takeKind_15 hok (fun a5 h_a5 hok => ?_)
    refine g_ldcS fx hS gt_RX2_66 dX2_takeKind_18 (fun w6 h_w6 => ?_)
    obtain ⟨G7, hf, hok⟩ := gOk_bind hok
    refine g_callV0 (κ := 7) fx hw (c_X7_needWord l X τ n hS a5 s_wear G4 h_a5 h_w6 hf) lv_RX2_68 ⟨rfl, rfl⟩ rfl rfl h_a5 rfl hl.1 rfl ⟨Nat.le_of_ble_eq_true rfl, Nat.le_of_ble_eq_true rfl⟩ (Nat.le_of_ble_eq_true rfl) ⟨Nat.le_of_ble_eq_true rfl, Nat.le_of_ble_eq_true rfl⟩ dX2_takeKind_20 (fun H locs hw => ?_)
    refine lv_iconst (v := 1) fx.1 fx.2.1 dX2_takeKind_23 (by decide) ?_
    cases gOk_some hok
    exact g_iret fx hw hr dX2_takeKind_24
  · refine lv_iconst (v := 0) fx.1 fx.2.1 dX2_takeKind_12 (by decide) ?_
    cases gOk_some hok
    exact g_iret fx hw hr dX2_takeKind_13
theorem dX7_takeNumber_0 : decode cX7_takeNumber 0 = .ok (.aload_n 0, 1) := by decide +kernel
theorem dX7_takeNumber_1 : decode cX7_takeNumber 1 = .ok (.getfield 15, 3) := by decide +kernel
theorem dX7_takeNumber_4 : decode cX7_takeNumber 4 = .ok (.iconst (-1), 1) := by decide +kernel
theorem dX7_takeNumber_5 : decode cX7_takeNumber 5 = .ok (.if_icmp .ne 19, 3) := by decide +kernel
theorem dX7_takeNumber_8 : decode cX7_takeNumber 8 = .ok (.aload_n 0, 1) := by decide +kernel
theorem dX7_takeNumber_9 : decode cX7_takeNumber 9 = .ok (.getfield 31, 3) := by decide +kernel
theorem dX7_takeNumber_12 : decode cX7_takeNumber 12 = .ok (.iload_n 1, 1) := by decide +kernel
theorem dX7_takeNumber_13 : decode cX7_takeNumber 13 = .ok (.if_icmp .lt 11, 3) := by decide +kernel
theorem dX7_takeNumber_16 : decode cX7_takeNumber 16 = .ok (.aload_n 0, 1) := by decide +kernel
theorem dX7_takeNumber_17 : decode cX7_takeNumber 17 = .ok (.getfield 31, 3) := by decide +kernel
theorem dX7_takeNumber_20 : decode cX7_takeNumber 20 = .ok (.iload_n 2, 1) := by decide +kernel
theorem dX7_takeNumber_21 : decode cX7_takeNumber 21 = .ok (.if_icmp .le 9, 3) := by decide +kernel
theorem dX7_takeNumber_24 : decode cX7_takeNumber 24 = .ok (.aload_n 0, 1) := by decide +kernel
theorem dX7_takeNumber_25 : decode cX7_takeNumber 25 = .ok (.invokevirtual 47, 3) := by decide +kernel
theorem dX7_takeNumber_28 : decode cX7_takeNumber 28 = .ok (.iconst (-1), 1) := by decide +kernel
theorem dX7_takeNumber_29 : decode cX7_takeNumber 29 = .ok (.ireturn, 1) := by decide +kernel
theorem dX7_takeNumber_30 : decode cX7_takeNumber 30 = .ok (.aload_n 0, 1) := by decide +kernel
theorem dX7_takeNumber_31 : decode cX7_takeNumber 31 = .ok (.getfield 31, 3) := by decide +kernel
theorem dX7_takeNumber_34 : decode cX7_takeNumber 34 = .ok (.istore_n 3, 1) := by decide +kernel
theorem dX7_takeNumber_35 : decode cX7_takeNumber 35 = .ok (.aload_n 0, 1) := by decide +kernel
theorem dX7_takeNumber_36 : decode cX7_takeNumber 36 = .ok (.invokevirtual 28, 3) := by decide +kernel
theorem dX7_takeNumber_39 : decode cX7_takeNumber 39 = .ok (.iload_n 3, 1) := by decide +kernel
theorem dX7_takeNumber_40 : decode cX7_takeNumber 40 = .ok (.ireturn, 1) := by decide +kernel
def rm_X7_takeNumber : Room := { frames := 1, cells := 0, slots := 0, locals := 21 }
def k_X7_takeNumber_24 (τ : gτ) (n : Nat) (x0 : Nat)  (G : gG) : Option (Int32 × gG) :=
  (f_X7_refuse x0 G).bind fun G1 =>
  some ((-1), G1)
def f_X7_takeNumber (τ : gτ) (n : Nat) (x0 : Nat) (x1 : Int32) (x2 : Int32) (G : gG) : Option (Int32 × gG) :=
  if (gi G 7 2 x0) = (-1 : Int32) then (if (gi G 7 5 x0) < x1 then (k_X7_takeNumber_24 τ n x0  G)
  else (if (gi G 7 5 x0) ≤ x2 then (gLet (gi G 7 5 x0) fun v2 =>
  (f_X7_advance τ n x0 G).bind fun G3 =>
  some (v2, G3))
  else (k_X7_takeNumber_24 τ n x0  G)))
  else (k_X7_takeNumber_24 τ n x0  G)
set_option maxHeartbeats 4000000 in
set_option maxRecDepth 100000 in
theorem w_X7_takeNumber_24 {X : gX} {τ : gτ} {p : Program} {l : Launch} {e : Env} {s : State} {m : MethodId} {args : Array Value} {below : List Frame} {meth : Method} {c : Code} (fx : gFx X p s m args meth c cX7_takeNumber 4 RX7) (n : Nat) (x0 : Nat)  (h0 : gK τ x0 7)  (hr : meth.sig.returnType = (some .int)) {r : Int32} {G' : gG} {G : gG} {H : Heap} {locs : List Loc} {ls : Array Slot} (hw : gHw X τ G H locs) (hl : lv_has ls 4 [(0, .ref x0)]) (hok : gOk (k_X7_takeNumber_24 τ n x0  G) (fun q => q = (r, G')))  : W p l e rm_X7_takeNumber s m args below meth c H locs 0 0 (MQ below (gQ X τ (some (.int r)) G') args s 0 0 (gFree X)) (F0 m 24 ls []) := by
  unfold k_X7_takeNumber_24 at hok
  refine lv_aload_n fx.1 fx.2.1 dX7_takeNumber_24 rfl (lv_at hl 0 rfl) ?_
  obtain ⟨G1, hf, hok⟩ := gOk_bind hok
  refine g_callV0 (κ := 7) fx hw (c_X7_refuse l X τ x0 G h0 hf) lv_RX7_47 ⟨rfl, rfl⟩ rfl rfl h0 rfl hl.1 rfl ⟨Nat.le_of_ble_eq_true rfl, Nat.le_of_ble_eq_true rfl⟩ (Nat.le_of_ble_eq_true rfl) ⟨Nat.le_of_ble_eq_true rfl, Nat.le_of_ble_eq_true rfl⟩ dX7_takeNumber_25 (fun H locs hw => ?_)
  refine lv_iconst (v := (-1)) fx.1 fx.2.1 dX7_takeNumber_28 (by decide) ?_
  cases gOk_some hok
  exact g_iret fx hw hr dX7_takeNumber_29
set_option maxHeartbeats 4000000 in
set_option maxRecDepth 100000 in
theorem c_X7_takeNumber (l : Launch) (X : gX) (τ : gτ) (n : Nat) (x0 : Nat) (x1 : Int32) (x2 : Int32) (G : gG) (h0 : gK τ x0 7) {r : Int32} {G' : gG} (h : f_X7_takeNumber τ n x0 x1 x2 G = some (r, G')) : gM l X τ yX7_takeNumber cX7_takeNumber 4 (some .int) rm_X7_takeNumber [.ref x0, .int x1, .int x2] G (some (.int r)) G' := by
  refine g_body (by decide +kernel) (Nat.le_of_ble_eq_true rfl) ?_
  intro p e s m args below meth c ls fx hr hw hl
  have fx : gFx X p s m args meth c cX7_takeNumber 4 RX7 := fx
  have hl : lv_has ls 4 [(0, .ref x0), (1, .int x1), (2, .int x2)] := hl
  have hok : gOk (f_X7_takeNumber τ n x0 x1 x2 G) (fun q => q = (r, G')) := ⟨_, h, rfl⟩
  unfold f_X7_takeNumber at hok
  show W p l e rm_X7_takeNumber s m args below meth c s.heap [] 0 0 (MQ below (gQ X τ (some (.int r)) G') args s 0 0 (gFree X)) _
  refine lv_aload_n fx.1 fx.2.1 dX7_takeNumber_0 rfl (lv_at hl 0 rfl) ?_
  refine g_geti fx hw h0 lf_RX7_15 rfl dX7_takeNumber_1 ?_
  refine lv_iconst (v := (-1)) fx.1 fx.2.1 dX7_takeNumber_4 (by decide) ?_
  refine g_icmp_ne (tgt := 24) fx dX7_takeNumber_5 (by decide) hok (fun hok => ?_) (fun hok => ?_)
  · refine lv_aload_n fx.1 fx.2.1 dX7_takeNumber_8 rfl (lv_at hl 0 rfl) ?_
    refine g_geti fx hw h0 lf_RX7_31 rfl dX7_takeNumber_9 ?_
    refine lv_iload_n fx.1 fx.2.1 dX7_takeNumber_12 rfl (lv_at hl 1 rfl) ?_
    refine g_icmp_lt (tgt := 24) fx dX7_takeNumber_13 (by decide) hok (fun hok => ?_) (fun hok => ?_)
    · exact w_X7_takeNumber_24 fx n x0  h0  hr hw (lv_sub hl [0] rfl) hok
    · refine lv_aload_n fx.1 fx.2.1 dX7_takeNumber_16 rfl (lv_at hl 0 rfl) ?_
      refine g_geti fx hw h0 lf_RX7_31 rfl dX7_takeNumber_17 ?_
      refine lv_iload_n fx.1 fx.2.1 dX7_takeNumber_20 rfl (lv_at hl 2 rfl) ?_
      refine g_icmp_le (tgt := 30) fx dX7_takeNumber_21 (by decide) hok (fun hok => ?_) (fun hok => ?_)
      · refine lv_aload_n fx.1 fx.2.1 dX7_takeNumber_30 rfl (lv_at hl 0 rfl) ?_
        refine g_geti fx hw h0 lf_RX7_31 rfl dX7_takeNumber_31 ?_
        refine g_leti hok (fun v2 hok => ?_)
        refine lv_istore_n (lv' := [(3, .int v2), (0, .ref x0), (1, .int x1), (2, .int x2)]) fx.1 fx.2.1 dX7_takeNumber_34 rfl hl (by decide) rfl (fun ls hl => ?_)
        refine lv_aload_n fx.1 fx.2.1 dX7_takeNumber_35 rfl (lv_at hl 1 rfl) ?_
        obtain ⟨G3, hf, hok⟩ := gOk_bind hok
        refine g_callV0 (κ := 7) fx hw (c_X7_advance l X τ n x0 G h0 hf) lv_RX7_28 ⟨rfl, rfl⟩ rfl rfl h0 rfl hl.1 rfl ⟨Nat.le_of_ble_eq_true rfl, Nat.le_of_ble_eq_true rfl⟩ (Nat.le_of_ble_eq_true rfl) ⟨Nat.le_of_ble_eq_true rfl, Nat.le_of_ble_eq_true rfl⟩ dX7_takeNumber_36 (fun H locs hw => ?_)
        refine lv_iload_n fx.1 fx.2.1 dX7_takeNumber_39 rfl (lv_at hl 0 rfl) ?_
        cases gOk_some hok
        exact g_iret fx hw hr dX7_takeNumber_40
      · exact w_X7_takeNumber_24 fx n x0  h0  hr hw (lv_sub hl [0] rfl) hok
  · exact w_X7_takeNumber_24 fx n x0  h0  hr hw (lv_sub hl [0] rfl) hok
theorem dX7_takeSign_0 : decode cX7_takeSign 0 = .ok (.aload_n 0, 1) := by decide +kernel
theorem dX7_takeSign_1 : decode cX7_takeSign 1 = .ok (.getfield 15, 3) := by decide +kernel
theorem dX7_takeSign_4 : decode cX7_takeSign 4 = .ok (.iconst (-1), 1) := by decide +kernel
theorem dX7_takeSign_5 : decode cX7_takeSign 5 = .ok (.if_icmp .ne 24, 3) := by decide +kernel
theorem dX7_takeSign_8 : decode cX7_takeSign 8 = .ok (.aload_n 0, 1) := by decide +kernel
theorem dX7_takeSign_9 : decode cX7_takeSign 9 = .ok (.getfield 25, 3) := by decide +kernel
theorem dX7_takeSign_12 : decode cX7_takeSign 12 = .ok (.iconst 1, 1) := by decide +kernel
theorem dX7_takeSign_13 : decode cX7_takeSign 13 = .ok (.if_icmp .ne 16, 3) := by decide +kernel
theorem dX7_takeSign_16 : decode cX7_takeSign 16 = .ok (.aload_n 0, 1) := by decide +kernel
theorem dX7_takeSign_17 : decode cX7_takeSign 17 = .ok (.getfield 9, 3) := by decide +kernel
theorem dX7_takeSign_20 : decode cX7_takeSign 20 = .ok (.aload_n 0, 1) := by decide +kernel
theorem dX7_takeSign_21 : decode cX7_takeSign 21 = .ok (.getfield 22, 3) := by decide +kernel
theorem dX7_takeSign_24 : decode cX7_takeSign 24 = .ok (.iaload, 1) := by decide +kernel
theorem dX7_takeSign_25 : decode cX7_takeSign 25 = .ok (.iload_n 1, 1) := by decide +kernel
theorem dX7_takeSign_26 : decode cX7_takeSign 26 = .ok (.if_icmp .eq 5, 3) := by decide +kernel
theorem dX7_takeSign_29 : decode cX7_takeSign 29 = .ok (.iconst 0, 1) := by decide +kernel
theorem dX7_takeSign_30 : decode cX7_takeSign 30 = .ok (.ireturn, 1) := by decide +kernel
theorem dX7_takeSign_31 : decode cX7_takeSign 31 = .ok (.aload_n 0, 1) := by decide +kernel
theorem dX7_takeSign_32 : decode cX7_takeSign 32 = .ok (.invokevirtual 28, 3) := by decide +kernel
theorem dX7_takeSign_35 : decode cX7_takeSign 35 = .ok (.iconst 1, 1) := by decide +kernel
theorem dX7_takeSign_36 : decode cX7_takeSign 36 = .ok (.ireturn, 1) := by decide +kernel
def rm_X7_takeSign : Room := { frames := 1, cells := 0, slots := 0, locals := 21 }
def f_X7_takeSign (τ : gτ) (n : Nat) (x0 : Nat) (x1 : Int32) (G : gG) : Option (Int32 × gG) :=
  if (gi G 7 2 x0) = (-1 : Int32) then (if (gi G 7 4 x0) = (1 : Int32) then ((gr G 7 0 x0).bind fun a1 =>
  gchk (gIn (gi G 7 3 x0) (gn τ a1)) <|
  if (ge G a1 (Int32.toNatClampNeg (gi G 7 3 x0))) = x1 then ((f_X7_advance τ n x0 G).bind fun G2 =>
  some (1, G2))
  else (some (0, G)))
  else (some (0, G)))
  else (some (0, G))
set_option maxHeartbeats 4000000 in
set_option maxRecDepth 100000 in
theorem c_X7_takeSign (l : Launch) (X : gX) (τ : gτ) (n : Nat) (x0 : Nat) (x1 : Int32) (G : gG) (h0 : gK τ x0 7) {r : Int32} {G' : gG} (h : f_X7_takeSign τ n x0 x1 G = some (r, G')) : gM l X τ yX7_takeSign cX7_takeSign 2 (some .boolean) rm_X7_takeSign [.ref x0, .int x1] G (some (.int r)) G' := by
  refine g_body (by decide +kernel) (Nat.le_of_ble_eq_true rfl) ?_
  intro p e s m args below meth c ls fx hr hw hl
  have fx : gFx X p s m args meth c cX7_takeSign 2 RX7 := fx
  have hl : lv_has ls 2 [(0, .ref x0), (1, .int x1)] := hl
  have hok : gOk (f_X7_takeSign τ n x0 x1 G) (fun q => q = (r, G')) := ⟨_, h, rfl⟩
  unfold f_X7_takeSign at hok
  show W p l e rm_X7_takeSign s m args below meth c s.heap [] 0 0 (MQ below (gQ X τ (some (.int r)) G') args s 0 0 (gFree X)) _
  refine lv_aload_n fx.1 fx.2.1 dX7_takeSign_0 rfl (lv_at hl 0 rfl) ?_
  refine g_geti fx hw h0 lf_RX7_15 rfl dX7_takeSign_1 ?_
  refine lv_iconst (v := (-1)) fx.1 fx.2.1 dX7_takeSign_4 (by decide) ?_
  refine g_icmp_ne (tgt := 29) fx dX7_takeSign_5 (by decide) hok (fun hok => ?_) (fun hok => ?_)
  · refine lv_aload_n fx.1 fx.2.1 dX7_takeSign_8 rfl (lv_at hl 0 rfl) ?_
    refine g_geti fx hw h0 lf_RX7_25 rfl dX7_takeSign_9 ?_
    refine lv_iconst (v := 1) fx.1 fx.2.1 dX7_takeSign_12 (by decide) ?_
    refine g_icmp_ne (tgt := 29) fx dX7_takeSign_13 (by decide) hok (fun hok => ?_) (fun hok => ?_)
    · refine lv_aload_n fx.1 fx.2.1 dX7_takeSign_16 rfl (lv_at hl 0 rfl) ?_
      refine g_getr fx hw h0 lf_RX7_9 rfl dX7_takeSign_17 hok (fun a1 h_a1 hok => ?_)
      refine lv_aload_n fx.1 fx.2.1 dX7_takeSign_20 rfl (lv_at hl 0 rfl) ?_
      refine g_geti fx hw h0 lf_RX7_22 rfl dX7_takeSign_21 ?_
      refine g_iald fx hw h_a1 dX7_takeSign_24 hok (fun hok => ?_)
      refine lv_iload_n fx.1 fx.2.1 dX7_takeSign_25 rfl (lv_at hl 1 rfl) ?_
      refine g_icmp_eq (tgt := 31) fx dX7_takeSign_26 (by decide) hok (fun hok => ?_) (fun hok => ?_)
      · refine lv_aload_n fx.1 fx.2.1 dX7_takeSign_31 rfl (lv_at hl 0 rfl) ?_
        obtain ⟨G2, hf, hok⟩ := gOk_bind hok
        refine g_callV0 (κ := 7) fx hw (c_X7_advance l X τ n x0 G h0 hf) lv_RX7_28 ⟨rfl, rfl⟩ rfl rfl h0 rfl hl.1 rfl ⟨Nat.le_of_ble_eq_true rfl, Nat.le_of_ble_eq_true rfl⟩ (Nat.le_of_ble_eq_true rfl) ⟨Nat.le_of_ble_eq_true rfl, Nat.le_of_ble_eq_true rfl⟩ dX7_takeSign_32 (fun H locs hw => ?_)
        refine lv_iconst (v := 1) fx.1 fx.2.1 dX7_takeSign_35 (by decide) ?_
        cases gOk_some hok
        exact g_zret fx hw hr (by decide) dX7_takeSign_36
      · refine lv_iconst (v := 0) fx.1 fx.2.1 dX7_takeSign_29 (by decide) ?_
        cases gOk_some hok
        exact g_zret fx hw hr (by decide) dX7_takeSign_30
    · refine lv_iconst (v := 0) fx.1 fx.2.1 dX7_takeSign_29 (by decide) ?_
      cases gOk_some hok
      exact g_zret fx hw hr (by decide) dX7_takeSign_30
  · refine lv_iconst (v := 0) fx.1 fx.2.1 dX7_takeSign_29 (by decide) ?_
    cases gOk_some hok
    exact g_zret fx hw hr (by decide) dX7_takeSign_30
theorem dX7_refuseAt_0 : decode cX7_refuseAt 0 = .ok (.aload_n 0, 1) := by decide +kernel
theorem dX7_refuseAt_1 : decode cX7_refuseAt 1 = .ok (.getfield 15, 3) := by decide +kernel
theorem dX7_refuseAt_4 : decode cX7_refuseAt 4 = .ok (.iconst (-1), 1) := by decide +kernel
theorem dX7_refuseAt_5 : decode cX7_refuseAt 5 = .ok (.if_icmp .ne 8, 3) := by decide +kernel
theorem dX7_refuseAt_8 : decode cX7_refuseAt 8 = .ok (.aload_n 0, 1) := by decide +kernel
theorem dX7_refuseAt_9 : decode cX7_refuseAt 9 = .ok (.iload_n 1, 1) := by decide +kernel
theorem dX7_refuseAt_10 : decode cX7_refuseAt 10 = .ok (.putfield 15, 3) := by decide +kernel
theorem dX7_refuseAt_13 : decode cX7_refuseAt 13 = .ok (.return_, 1) := by decide +kernel
def rm_X7_refuseAt : Room := { frames := 0, cells := 0, slots := 0, locals := 0 }
def f_X7_refuseAt (x0 : Nat) (x1 : Int32) (G : gG) : Option (gG) :=
  if (gi G 7 2 x0) = (-1 : Int32) then (gLet (gsi G 7 2 x0 x1) fun G1 =>
  some G1)
  else (some G)
set_option maxHeartbeats 4000000 in
set_option maxRecDepth 100000 in
theorem c_X7_refuseAt (l : Launch) (X : gX) (τ : gτ) (x0 : Nat) (x1 : Int32) (G : gG) (h0 : gK τ x0 7) {G' : gG} (h : f_X7_refuseAt x0 x1 G = some G') : gM l X τ yX7_refuseAt cX7_refuseAt 2 none rm_X7_refuseAt [.ref x0, .int x1] G none G' := by
  refine g_body (by decide +kernel) (Nat.le_of_ble_eq_true rfl) ?_
  intro p e s m args below meth c ls fx hr hw hl
  have fx : gFx X p s m args meth c cX7_refuseAt 2 RX7 := fx
  have hl : lv_has ls 2 [(0, .ref x0), (1, .int x1)] := hl
  have hok : gOk (f_X7_refuseAt x0 x1 G) (fun q => q = G') := ⟨_, h, rfl⟩
  unfold f_X7_refuseAt at hok
  show W p l e rm_X7_refuseAt s m args below meth c s.heap [] 0 0 (MQ below (gQ X τ none G') args s 0 0 (gFree X)) _
  refine lv_aload_n fx.1 fx.2.1 dX7_refuseAt_0 rfl (lv_at hl 0 rfl) ?_
  refine g_geti fx hw h0 lf_RX7_15 rfl dX7_refuseAt_1 ?_
  refine lv_iconst (v := (-1)) fx.1 fx.2.1 dX7_refuseAt_4 (by decide) ?_
  refine g_icmp_ne (tgt := 13) fx dX7_refuseAt_5 (by decide) hok (fun hok => ?_) (fun hok => ?_)
  · refine lv_aload_n fx.1 fx.2.1 dX7_refuseAt_8 rfl (lv_at hl 0 rfl) ?_
    refine lv_iload_n fx.1 fx.2.1 dX7_refuseAt_9 rfl (lv_at hl 1 rfl) ?_
    refine g_puti fx hw h0 lp_RX7_15 rfl rfl dX7_refuseAt_10 hok (fun G1 H locs hw hok => ?_)
    cases gOk_some hok
    exact g_vret fx hw hr dX7_refuseAt_13
  · cases gOk_some hok
    exact g_vret fx hw hr dX7_refuseAt_13
theorem dX7_needSign_0 : decode cX7_needSign 0 = .ok (.aload_n 0, 1) := by decide +kernel
theorem dX7_needSign_1 : decode cX7_needSign 1 = .ok (.iload_n 1, 1) := by decide +kernel
theorem dX7_needSign_2 : decode cX7_needSign 2 = .ok (.invokevirtual 50, 3) := by decide +kernel
theorem dX7_needSign_5 : decode cX7_needSign 5 = .ok (.ifCond .ne 7, 3) := by decide +kernel
theorem dX7_needSign_8 : decode cX7_needSign 8 = .ok (.aload_n 0, 1) := by decide +kernel
theorem dX7_needSign_9 : decode cX7_needSign 9 = .ok (.invokevirtual 47, 3) := by decide +kernel
theorem dX7_needSign_12 : decode cX7_needSign 12 = .ok (.return_, 1) := by decide +kernel
theorem lv_RX7_50 : gLv RX7 50 RX7 yX7_takeSign cX7_takeSign 2 (some .boolean) 1 := gLv_of (wA_t (wt4 (List.mem_of_getElem? (i := 66) (by decide +kernel))) (by decide +kernel)) (wA_t (wt4 (List.mem_of_getElem? (i := 67) (by decide +kernel))) (by decide +kernel)) (wA_t (wt4 (List.mem_of_getElem? (i := 68) (by decide +kernel))) (by decide +kernel)) (wA_t (wt1 (List.mem_of_getElem? (i := 2) (by decide +kernel))) (by decide +kernel)) (wA_t (wt4 (List.mem_of_getElem? (i := 69) (by decide +kernel))) (by decide +kernel)) ⟨rfl, by decide +kernel, by decide +kernel, by decide +kernel⟩
def rm_X7_needSign : Room := { frames := 2, cells := 0, slots := 0, locals := 42 }
def f_X7_needSign (τ : gτ) (n : Nat) (x0 : Nat) (x1 : Int32) (G : gG) : Option (gG) :=
  gBind2 (f_X7_takeSign τ n x0 x1 G) fun v1 G2 =>
  if v1 = 0 then ((f_X7_refuse x0 G2).bind fun G3 =>
  some G3)
  else (some G2)
set_option maxHeartbeats 4000000 in
set_option maxRecDepth 100000 in
theorem c_X7_needSign (l : Launch) (X : gX) (τ : gτ) (n : Nat) (x0 : Nat) (x1 : Int32) (G : gG) (h0 : gK τ x0 7) {G' : gG} (h : f_X7_needSign τ n x0 x1 G = some G') : gM l X τ yX7_needSign cX7_needSign 2 none rm_X7_needSign [.ref x0, .int x1] G none G' := by
  refine g_body (by decide +kernel) (Nat.le_of_ble_eq_true rfl) ?_
  intro p e s m args below meth c ls fx hr hw hl
  have fx : gFx X p s m args meth c cX7_needSign 2 RX7 := fx
  have hl : lv_has ls 2 [(0, .ref x0), (1, .int x1)] := hl
  have hok : gOk (f_X7_needSign τ n x0 x1 G) (fun q => q = G') := ⟨_, h, rfl⟩
  unfold f_X7_needSign at hok
  show W p l e rm_X7_needSign s m args below meth c s.heap [] 0 0 (MQ below (gQ X τ none G') args s 0 0 (gFree X)) _
  refine lv_aload_n fx.1 fx.2.1 dX7_needSign_0 rfl (lv_at hl 0 rfl) ?_
  refine lv_iload_n fx.1 fx.2.1 dX7_needSign_1 rfl (lv_at hl 1 rfl) ?_
  obtain ⟨v1, G2, hf, hok⟩ := gOk_bind2 hok
  refine g_callV0 (κ := 7) fx hw (c_X7_takeSign l X τ n x0 x1 G h0 hf) lv_RX7_50 ⟨rfl, rfl⟩ rfl rfl h0 rfl hl.1 rfl ⟨Nat.le_of_ble_eq_true rfl, Nat.le_of_ble_eq_true rfl⟩ (Nat.le_of_ble_eq_true rfl) ⟨Nat.le_of_ble_eq_true rfl, Nat.le_of_ble_eq_true rfl⟩ dX7_needSign_2 (fun H locs hw => ?_)
  refine g_if_ne (tgt := 12) fx dX7_needSign_5 (by decide) hok (fun hok => ?_) (fun hok => ?_)
  · refine lv_aload_n fx.1 fx.2.1 dX7_needSign_8 rfl (lv_at hl 0 rfl) ?_
    obtain ⟨G3, hf, hok⟩ := gOk_bind hok
    refine g_callV0 (κ := 7) fx hw (c_X7_refuse l X τ x0 G2 h0 hf) lv_RX7_47 ⟨rfl, rfl⟩ rfl rfl h0 rfl hl.1 rfl ⟨Nat.le_of_ble_eq_true rfl, Nat.le_of_ble_eq_true rfl⟩ (Nat.le_of_ble_eq_true rfl) ⟨Nat.le_of_ble_eq_true rfl, Nat.le_of_ble_eq_true rfl⟩ dX7_needSign_9 (fun H locs hw => ?_)
    cases gOk_some hok
    exact g_vret fx hw hr dX7_needSign_12
  · cases gOk_some hok
    exact g_vret fx hw hr dX7_needSign_12
theorem dX2_takePart_0 : decode cX2_takePart 0 = .ok (.aload_n 0, 1) := by decide +kernel
theorem dX2_takePart_1 : decode cX2_takePart 1 = .ok (.getfield 9, 3) := by decide +kernel
theorem dX2_takePart_4 : decode cX2_takePart 4 = .ok (.ldc 109, 2) := by decide +kernel
theorem dX2_takePart_6 : decode cX2_takePart 6 = .ok (.invokevirtual 33, 3) := by decide +kernel
theorem dX2_takePart_9 : decode cX2_takePart 9 = .ok (.ifCond .eq 7, 3) := by decide +kernel
theorem dX2_takePart_12 : decode cX2_takePart 12 = .ok (.sipush 1000, 3) := by decide +kernel
theorem dX2_takePart_15 : decode cX2_takePart 15 = .ok (.ireturn, 1) := by decide +kernel
theorem dX2_takePart_16 : decode cX2_takePart 16 = .ok (.aload_n 0, 1) := by decide +kernel
theorem dX2_takePart_17 : decode cX2_takePart 17 = .ok (.getfield 9, 3) := by decide +kernel
theorem dX2_takePart_20 : decode cX2_takePart 20 = .ok (.ldc 111, 2) := by decide +kernel
theorem dX2_takePart_22 : decode cX2_takePart 22 = .ok (.invokevirtual 33, 3) := by decide +kernel
theorem dX2_takePart_25 : decode cX2_takePart 25 = .ok (.ifCond .eq 7, 3) := by decide +kernel
theorem dX2_takePart_28 : decode cX2_takePart 28 = .ok (.sipush 1001, 3) := by decide +kernel
theorem dX2_takePart_31 : decode cX2_takePart 31 = .ok (.ireturn, 1) := by decide +kernel
theorem dX2_takePart_32 : decode cX2_takePart 32 = .ok (.aload_n 0, 1) := by decide +kernel
theorem dX2_takePart_33 : decode cX2_takePart 33 = .ok (.getfield 9, 3) := by decide +kernel
theorem dX2_takePart_36 : decode cX2_takePart 36 = .ok (.ldc 113, 2) := by decide +kernel
theorem dX2_takePart_38 : decode cX2_takePart 38 = .ok (.invokevirtual 33, 3) := by decide +kernel
theorem dX2_takePart_41 : decode cX2_takePart 41 = .ok (.ifCond .eq 7, 3) := by decide +kernel
theorem dX2_takePart_44 : decode cX2_takePart 44 = .ok (.sipush 1002, 3) := by decide +kernel
theorem dX2_takePart_47 : decode cX2_takePart 47 = .ok (.ireturn, 1) := by decide +kernel
theorem dX2_takePart_48 : decode cX2_takePart 48 = .ok (.aload_n 0, 1) := by decide +kernel
theorem dX2_takePart_49 : decode cX2_takePart 49 = .ok (.getfield 9, 3) := by decide +kernel
theorem dX2_takePart_52 : decode cX2_takePart 52 = .ok (.ldc 115, 2) := by decide +kernel
theorem dX2_takePart_54 : decode cX2_takePart 54 = .ok (.invokevirtual 33, 3) := by decide +kernel
theorem dX2_takePart_57 : decode cX2_takePart 57 = .ok (.ifCond .eq 7, 3) := by decide +kernel
theorem dX2_takePart_60 : decode cX2_takePart 60 = .ok (.sipush 1003, 3) := by decide +kernel
theorem dX2_takePart_63 : decode cX2_takePart 63 = .ok (.ireturn, 1) := by decide +kernel
theorem dX2_takePart_64 : decode cX2_takePart 64 = .ok (.aload_n 0, 1) := by decide +kernel
theorem dX2_takePart_65 : decode cX2_takePart 65 = .ok (.getfield 9, 3) := by decide +kernel
theorem dX2_takePart_68 : decode cX2_takePart 68 = .ok (.ldc 117, 2) := by decide +kernel
theorem dX2_takePart_70 : decode cX2_takePart 70 = .ok (.invokevirtual 33, 3) := by decide +kernel
theorem dX2_takePart_73 : decode cX2_takePart 73 = .ok (.ifCond .eq 7, 3) := by decide +kernel
theorem dX2_takePart_76 : decode cX2_takePart 76 = .ok (.sipush 1004, 3) := by decide +kernel
theorem dX2_takePart_79 : decode cX2_takePart 79 = .ok (.ireturn, 1) := by decide +kernel
theorem dX2_takePart_80 : decode cX2_takePart 80 = .ok (.aload_n 0, 1) := by decide +kernel
theorem dX2_takePart_81 : decode cX2_takePart 81 = .ok (.getfield 9, 3) := by decide +kernel
theorem dX2_takePart_84 : decode cX2_takePart 84 = .ok (.ldc 119, 2) := by decide +kernel
theorem dX2_takePart_86 : decode cX2_takePart 86 = .ok (.invokevirtual 33, 3) := by decide +kernel
theorem dX2_takePart_89 : decode cX2_takePart 89 = .ok (.ifCond .eq 7, 3) := by decide +kernel
theorem dX2_takePart_92 : decode cX2_takePart 92 = .ok (.sipush 1005, 3) := by decide +kernel
theorem dX2_takePart_95 : decode cX2_takePart 95 = .ok (.ireturn, 1) := by decide +kernel
theorem dX2_takePart_96 : decode cX2_takePart 96 = .ok (.aload_n 0, 1) := by decide +kernel
theorem dX2_takePart_97 : decode cX2_takePart 97 = .ok (.getfield 9, 3) := by decide +kernel
theorem dX2_takePart_100 : decode cX2_takePart 100 = .ok (.ldc 121, 2) := by decide +kernel
theorem dX2_takePart_102 : decode cX2_takePart 102 = .ok (.invokevirtual 33, 3) := by decide +kernel
theorem dX2_takePart_105 : decode cX2_takePart 105 = .ok (.ifCond .eq 7, 3) := by decide +kernel
theorem dX2_takePart_108 : decode cX2_takePart 108 = .ok (.sipush 1006, 3) := by decide +kernel
theorem dX2_takePart_111 : decode cX2_takePart 111 = .ok (.ireturn, 1) := by decide +kernel
theorem dX2_takePart_112 : decode cX2_takePart 112 = .ok (.aload_n 0, 1) := by decide +kernel
theorem dX2_takePart_113 : decode cX2_takePart 113 = .ok (.getfield 9, 3) := by decide +kernel
theorem dX2_takePart_116 : decode cX2_takePart 116 = .ok (.ldc 123, 2) := by decide +kernel
theorem dX2_takePart_118 : decode cX2_takePart 118 = .ok (.invokevirtual 33, 3) := by decide +kernel
theorem dX2_takePart_121 : decode cX2_takePart 121 = .ok (.ifCond .eq 7, 3) := by decide +kernel
theorem dX2_takePart_124 : decode cX2_takePart 124 = .ok (.sipush 1007, 3) := by decide +kernel
theorem dX2_takePart_127 : decode cX2_takePart 127 = .ok (.ireturn, 1) := by decide +kernel
theorem dX2_takePart_128 : decode cX2_takePart 128 = .ok (.aload_n 0, 1) := by decide +kernel
theorem dX2_takePart_129 : decode cX2_takePart 129 = .ok (.getfield 9, 3) := by decide +kernel
theorem dX2_takePart_132 : decode cX2_takePart 132 = .ok (.ldc 125, 2) := by decide +kernel
theorem dX2_takePart_134 : decode cX2_takePart 134 = .ok (.invokevirtual 33, 3) := by decide +kernel
theorem dX2_takePart_137 : decode cX2_takePart 137 = .ok (.ifCond .eq 9, 3) := by decide +kernel
theorem dX2_takePart_140 : decode cX2_takePart 140 = .ok (.sipush 1008, 3) := by decide +kernel
theorem dX2_takePart_143 : decode cX2_takePart 143 = .ok (.goto 14, 3) := by decide +kernel
theorem dX2_takePart_146 : decode cX2_takePart 146 = .ok (.aload_n 0, 1) := by decide +kernel
theorem dX2_takePart_147 : decode cX2_takePart 147 = .ok (.getfield 9, 3) := by decide +kernel
theorem dX2_takePart_150 : decode cX2_takePart 150 = .ok (.iconst 0, 1) := by decide +kernel
theorem dX2_takePart_151 : decode cX2_takePart 151 = .ok (.sipush 999, 3) := by decide +kernel
theorem dX2_takePart_154 : decode cX2_takePart 154 = .ok (.invokevirtual 41, 3) := by decide +kernel
theorem dX2_takePart_157 : decode cX2_takePart 157 = .ok (.ireturn, 1) := by decide +kernel
theorem lv_RX2_41 : gLv RX2 41 RX7 yX7_takeNumber cX7_takeNumber 4 (some .int) 2 := gLv_of (wA_t (wt4 (List.mem_of_getElem? (i := 183) (by decide +kernel))) (by decide +kernel)) (wA_t (wt3 (List.mem_of_getElem? (i := 227) (by decide +kernel))) (by decide +kernel)) (wA_t (wt3 (List.mem_of_getElem? (i := 228) (by decide +kernel))) (by decide +kernel)) (wA_t (wt1 (List.mem_of_getElem? (i := 2) (by decide +kernel))) (by decide +kernel)) (wA_t (wt3 (List.mem_of_getElem? (i := 229) (by decide +kernel))) (by decide +kernel)) ⟨rfl, by decide +kernel, by decide +kernel, by decide +kernel⟩
def rm_X2_takePart : Room := { frames := 5, cells := 0, slots := 0, locals := 182 }
def f_X2_takePart (τ : gτ) (n : Nat) (x0 : Nat) (G : gG) : Option (Int32 × gG) :=
  (gr G 2 0 x0).bind fun a1 =>
  gBind2 (f_X7_takeWord τ n a1 s_weak G) fun v3 G4 =>
  if v3 = 0 then ((gr G4 2 0 x0).bind fun a5 =>
  gBind2 (f_X7_takeWord τ n a5 s_strong G4) fun v7 G8 =>
  if v7 = 0 then ((gr G8 2 0 x0).bind fun a9 =>
  gBind2 (f_X7_takeWord τ n a9 s_rot G8) fun v11 G12 =>
  if v11 = 0 then ((gr G12 2 0 x0).bind fun a13 =>
  gBind2 (f_X7_takeWord τ n a13 s_reigns G12) fun v15 G16 =>
  if v15 = 0 then ((gr G16 2 0 x0).bind fun a17 =>
  gBind2 (f_X7_takeWord τ n a17 s_tar G16) fun v19 G20 =>
  if v19 = 0 then ((gr G20 2 0 x0).bind fun a21 =>
  gBind2 (f_X7_takeWord τ n a21 s_worn G20) fun v23 G24 =>
  if v23 = 0 then ((gr G24 2 0 x0).bind fun a25 =>
  gBind2 (f_X7_takeWord τ n a25 s_long G24) fun v27 G28 =>
  if v27 = 0 then ((gr G28 2 0 x0).bind fun a29 =>
  gBind2 (f_X7_takeWord τ n a29 s_plies G28) fun v31 G32 =>
  if v31 = 0 then ((gr G32 2 0 x0).bind fun a33 =>
  gBind2 (f_X7_takeWord τ n a33 s_load G32) fun v35 G36 =>
  if v35 = 0 then ((gr G36 2 0 x0).bind fun a37 =>
  gBind2 (f_X7_takeNumber τ n a37 (0 : Int32) (999 : Int32) G36) fun v38 G39 =>
  some (v38, G39))
  else (some (1008, G36)))
  else (some (1007, G32)))
  else (some (1006, G28)))
  else (some (1005, G24)))
  else (some (1004, G20)))
  else (some (1003, G16)))
  else (some (1002, G12)))
  else (some (1001, G8)))
  else (some (1000, G4))
set_option maxHeartbeats 4000000 in
set_option maxRecDepth 100000 in
theorem c_X2_takePart (l : Launch) (X : gX) (τ : gτ) (n : Nat) (hS : gS0 l X) (x0 : Nat) (G : gG) (h0 : gK τ x0 2) {r : Int32} {G' : gG} (h : f_X2_takePart τ n x0 G = some (r, G')) : gM l X τ yX2_takePart cX2_takePart 1 (some .int) rm_X2_takePart [.ref x0] G (some (.int r)) G' := by
  refine g_body (by decide +kernel) (Nat.le_of_ble_eq_true rfl) ?_
  intro p e s m args below meth c ls fx hr hw hl
  have fx : gFx X p s m args meth c cX2_takePart 1 RX2 := fx
  have hl : lv_has ls 1 [(0, .ref x0)] := hl
  have hok : gOk (f_X2_takePart τ n x0 G) (fun q => q = (r, G')) := ⟨_, h, rfl⟩
  unfold f_X2_takePart at hok
  show W p l e rm_X2_takePart s m args below meth c s.heap [] 0 0 (MQ below (gQ X τ (some (.int r)) G') args s 0 0 (gFree X)) _
  refine lv_aload_n fx.1 fx.2.1 dX2_takePart_0 rfl (lv_at hl 0 rfl) ?_
  refine g_getr fx hw h0 lf_RX2_9 rfl dX2_takePart_1 hok (fun a1 h_a1 hok => ?_)
  refine g_ldcS fx hS gt_RX2_109 dX2_takePart_4 (fun w2 h_w2 => ?_)
  obtain ⟨v3, G4, hf, hok⟩ := gOk_bind2 hok
  refine g_callV0 (κ := 7) fx hw (c_X7_takeWord l X τ n hS a1 s_weak G h_a1 h_w2 hf) lv_RX2_33 ⟨rfl, rfl⟩ rfl rfl h_a1 rfl hl.1 rfl ⟨Nat.le_of_ble_eq_true rfl, Nat.le_of_ble_eq_true rfl⟩ (Nat.le_of_ble_eq_true rfl) ⟨Nat.le_of_ble_eq_true rfl, Nat.le_of_ble_eq_true rfl⟩ dX2_takePart_6 (fun H locs hw => ?_)
  refine g_if_eq (tgt := 16) fx dX2_takePart_9 (by decide) hok (fun hok => ?_) (fun hok => ?_)
  · refine lv_aload_n fx.1 fx.2.1 dX2_takePart_16 rfl (lv_at hl 0 rfl) ?_
    refine g_getr fx hw h0 lf_RX2_9 rfl dX2_takePart_17 hok (fun a5 h_a5 hok => ?_)
    refine g_ldcS fx hS gt_RX2_111 dX2_takePart_20 (fun w6 h_w6 => ?_)
    obtain ⟨v7, G8, hf, hok⟩ := gOk_bind2 hok
    refine g_callV0 (κ := 7) fx hw (c_X7_takeWord l X τ n hS a5 s_strong G4 h_a5 h_w6 hf) lv_RX2_33 ⟨rfl, rfl⟩ rfl rfl h_a5 rfl hl.1 rfl ⟨Nat.le_of_ble_eq_true rfl, Nat.le_of_ble_eq_true rfl⟩ (Nat.le_of_ble_eq_true rfl) ⟨Nat.le_of_ble_eq_true rfl, Nat.le_of_ble_eq_true rfl⟩ dX2_takePart_22 (fun H locs hw => ?_)
    refine g_if_eq (tgt := 32) fx dX2_takePart_25 (by decide) hok (fun hok => ?_) (fun hok => ?_)
    · refine lv_aload_n fx.1 fx.2.1 dX2_takePart_32 rfl (lv_at hl 0 rfl) ?_
      refine g_getr fx hw h0 lf_RX2_9 rfl dX2_takePart_33 hok (fun a9 h_a9 hok => ?_)
      refine g_ldcS fx hS gt_RX2_113 dX2_takePart_36 (fun w10 h_w10 => ?_)
      obtain ⟨v11, G12, hf, hok⟩ := gOk_bind2 hok
      refine g_callV0 (κ := 7) fx hw (c_X7_takeWord l X τ n hS a9 s_rot G8 h_a9 h_w10 hf) lv_RX2_33 ⟨rfl, rfl⟩ rfl rfl h_a9 rfl hl.1 rfl ⟨Nat.le_of_ble_eq_true rfl, Nat.le_of_ble_eq_true rfl⟩ (Nat.le_of_ble_eq_true rfl) ⟨Nat.le_of_ble_eq_true rfl, Nat.le_of_ble_eq_true rfl⟩ dX2_takePart_38 (fun H locs hw => ?_)
      refine g_if_eq (tgt := 48) fx dX2_takePart_41 (by decide) hok (fun hok => ?_) (fun hok => ?_)
      · refine lv_aload_n fx.1 fx.2.1 dX2_takePart_48 rfl (lv_at hl 0 rfl) ?_
        refine g_getr fx hw h0 lf_RX2_9 rfl dX2_takePart_49 hok (fun a13 h_a13 hok => ?_)
        refine g_ldcS fx hS gt_RX2_115 dX2_takePart_52 (fun w14 h_w14 => ?_)
        obtain ⟨v15, G16, hf, hok⟩ := gOk_bind2 hok
        refine g_callV0 (κ := 7) fx hw (c_X7_takeWord l X τ n hS a13 s_reigns G12 h_a13 h_w14 hf) lv_RX2_33 ⟨rfl, rfl⟩ rfl rfl h_a13 rfl hl.1 rfl ⟨Nat.le_of_ble_eq_true rfl, Nat.le_of_ble_eq_true rfl⟩ (Nat.le_of_ble_eq_true rfl) ⟨Nat.le_of_ble_eq_true rfl, Nat.le_of_ble_eq_true rfl⟩ dX2_takePart_54 (fun H locs hw => ?_)
        refine g_if_eq (tgt := 64) fx dX2_takePart_57 (by decide) hok (fun hok => ?_) (fun hok => ?_)
        · refine lv_aload_n fx.1 fx.2.1 dX2_takePart_64 rfl (lv_at hl 0 rfl) ?_
          refine g_getr fx hw h0 lf_RX2_9 rfl dX2_takePart_65 hok (fun a17 h_a17 hok => ?_)
          refine g_ldcS fx hS gt_RX2_117 dX2_takePart_68 (fun w18 h_w18 => ?_)
          obtain ⟨v19, G20, hf, hok⟩ := gOk_bind2 hok
          refine g_callV0 (κ := 7) fx hw (c_X7_takeWord l X τ n hS a17 s_tar G16 h_a17 h_w18 hf) lv_RX2_33 ⟨rfl, rfl⟩ rfl rfl h_a17 rfl hl.1 rfl ⟨Nat.le_of_ble_eq_true rfl, Nat.le_of_ble_eq_true rfl⟩ (Nat.le_of_ble_eq_true rfl) ⟨Nat.le_of_ble_eq_true rfl, Nat.le_of_ble_eq_true rfl⟩ dX2_takePart_70 (fun H locs hw => ?_)
          refine g_if_eq (tgt := 80) fx dX2_takePart_73 (by decide) hok (fun hok => ?_) (fun hok => ?_)
          · refine lv_aload_n fx.1 fx.2.1 dX2_takePart_80 rfl (lv_at hl 0 rfl) ?_
            refine g_getr fx hw h0 lf_RX2_9 rfl dX2_takePart_81 hok (fun a21 h_a21 hok => ?_)
            refine g_ldcS fx hS gt_RX2_119 dX2_takePart_84 (fun w22 h_w22 => ?_)
            obtain ⟨v23, G24, hf, hok⟩ := gOk_bind2 hok
            refine g_callV0 (κ := 7) fx hw (c_X7_takeWord l X τ n hS a21 s_worn G20 h_a21 h_w22 hf) lv_RX2_33 ⟨rfl, rfl⟩ rfl rfl h_a21 rfl hl.1 rfl ⟨Nat.le_of_ble_eq_true rfl, Nat.le_of_ble_eq_true rfl⟩ (Nat.le_of_ble_eq_true rfl) ⟨Nat.le_of_ble_eq_true rfl, Nat.le_of_ble_eq_true rfl⟩ dX2_takePart_86 (fun H locs hw => ?_)
            refine g_if_eq (tgt := 96) fx dX2_takePart_89 (by decide) hok (fun hok => ?_) (fun hok => ?_)
            · refine lv_aload_n fx.1 fx.2.1 dX2_takePart_96 rfl (lv_at hl 0 rfl) ?_
              refine g_getr fx hw h0 lf_RX2_9 rfl dX2_takePart_97 hok (fun a25 h_a25 hok => ?_)
              refine g_ldcS fx hS gt_RX2_121 dX2_takePart_100 (fun w26 h_w26 => ?_)
              obtain ⟨v27, G28, hf, hok⟩ := gOk_bind2 hok
              refine g_callV0 (κ := 7) fx hw (c_X7_takeWord l X τ n hS a25 s_long G24 h_a25 h_w26 hf) lv_RX2_33 ⟨rfl, rfl⟩ rfl rfl h_a25 rfl hl.1 rfl ⟨Nat.le_of_ble_eq_true rfl, Nat.le_of_ble_eq_true rfl⟩ (Nat.le_of_ble_eq_true rfl) ⟨Nat.le_of_ble_eq_true rfl, Nat.le_of_ble_eq_true rfl⟩ dX2_takePart_102 (fun H locs hw => ?_)
              refine g_if_eq (tgt := 112) fx dX2_takePart_105 (by decide) hok (fun hok => ?_) (fun hok => ?_)
              · refine lv_aload_n fx.1 fx.2.1 dX2_takePart_112 rfl (lv_at hl 0 rfl) ?_
                refine g_getr fx hw h0 lf_RX2_9 rfl dX2_takePart_113 hok (fun a29 h_a29 hok => ?_)
                refine g_ldcS fx hS gt_RX2_123 dX2_takePart_116 (fun w30 h_w30 => ?_)
                obtain ⟨v31, G32, hf, hok⟩ := gOk_bind2 hok
                refine g_callV0 (κ := 7) fx hw (c_X7_takeWord l X τ n hS a29 s_plies G28 h_a29 h_w30 hf) lv_RX2_33 ⟨rfl, rfl⟩ rfl rfl h_a29 rfl hl.1 rfl ⟨Nat.le_of_ble_eq_true rfl, Nat.le_of_ble_eq_true rfl⟩ (Nat.le_of_ble_eq_true rfl) ⟨Nat.le_of_ble_eq_true rfl, Nat.le_of_ble_eq_true rfl⟩ dX2_takePart_118 (fun H locs hw => ?_)
                refine g_if_eq (tgt := 128) fx dX2_takePart_121 (by decide) hok (fun hok => ?_) (fun hok => ?_)
                · refine lv_aload_n fx.1 fx.2.1 dX2_takePart_128 rfl (lv_at hl 0 rfl) ?_
                  refine g_getr fx hw h0 lf_RX2_9 rfl dX2_takePart_129 hok (fun a33 h_a33 hok => ?_)
                  refine g_ldcS fx hS gt_RX2_125 dX2_takePart_132 (fun w34 h_w34 => ?_)
                  obtain ⟨v35, G36, hf, hok⟩ := gOk_bind2 hok
                  refine g_callV0 (κ := 7) fx hw (c_X7_takeWord l X τ n hS a33 s_load G32 h_a33 h_w34 hf) lv_RX2_33 ⟨rfl, rfl⟩ rfl rfl h_a33 rfl hl.1 rfl ⟨Nat.le_of_ble_eq_true rfl, Nat.le_of_ble_eq_true rfl⟩ (Nat.le_of_ble_eq_true rfl) ⟨Nat.le_of_ble_eq_true rfl, Nat.le_of_ble_eq_true rfl⟩ dX2_takePart_134 (fun H locs hw => ?_)
                  refine g_if_eq (tgt := 146) fx dX2_takePart_137 (by decide) hok (fun hok => ?_) (fun hok => ?_)
                  · refine lv_aload_n fx.1 fx.2.1 dX2_takePart_146 rfl (lv_at hl 0 rfl) ?_
                    refine g_getr fx hw h0 lf_RX2_9 rfl dX2_takePart_147 hok (fun a37 h_a37 hok => ?_)
                    refine lv_iconst (v := 0) fx.1 fx.2.1 dX2_takePart_150 (by decide) ?_
                    refine lv_sipush (v := 999) fx.1 fx.2.1 dX2_takePart_151 (by decide) ?_
                    obtain ⟨v38, G39, hf, hok⟩ := gOk_bind2 hok
                    refine g_callV0 (κ := 7) fx hw (c_X7_takeNumber l X τ n a37 (0 : Int32) (999 : Int32) G36 h_a37 hf) lv_RX2_41 ⟨rfl, rfl⟩ rfl rfl h_a37 rfl hl.1 rfl ⟨Nat.le_of_ble_eq_true rfl, Nat.le_of_ble_eq_true rfl⟩ (Nat.le_of_ble_eq_true rfl) ⟨Nat.le_of_ble_eq_true rfl, Nat.le_of_ble_eq_true rfl⟩ dX2_takePart_154 (fun H locs hw => ?_)
                    cases gOk_some hok
                    exact g_iret fx hw hr dX2_takePart_157
                  · refine lv_sipush (v := 1008) fx.1 fx.2.1 dX2_takePart_140 (by decide) ?_
                    refine lv_goto (tgt := 157) fx.1 fx.2.1 dX2_takePart_143 (by decide) ?_
                    cases gOk_some hok
                    exact g_iret fx hw hr dX2_takePart_157
                · refine lv_sipush (v := 1007) fx.1 fx.2.1 dX2_takePart_124 (by decide) ?_
                  cases gOk_some hok
                  exact g_iret fx hw hr dX2_takePart_127
              · refine lv_sipush (v := 1006) fx.1 fx.2.1 dX2_takePart_108 (by decide) ?_
                cases gOk_some hok
                exact g_iret fx hw hr dX2_takePart_111
            · refine lv_sipush (v := 1005) fx.1 fx.2.1 dX2_takePart_92 (by decide) ?_
              cases gOk_some hok
              exact g_iret fx hw hr dX2_takePart_95
          · refine lv_sipush (v := 1004) fx.1 fx.2.1 dX2_takePart_76 (by decide) ?_
            cases gOk_some hok
            exact g_iret fx hw hr dX2_takePart_79
        · refine lv_sipush (v := 1003) fx.1 fx.2.1 dX2_takePart_60 (by decide) ?_
          cases gOk_some hok
          exact g_iret fx hw hr dX2_takePart_63
      · refine lv_sipush (v := 1002) fx.1 fx.2.1 dX2_takePart_44 (by decide) ?_
        cases gOk_some hok
        exact g_iret fx hw hr dX2_takePart_47
    · refine lv_sipush (v := 1001) fx.1 fx.2.1 dX2_takePart_28 (by decide) ?_
      cases gOk_some hok
      exact g_iret fx hw hr dX2_takePart_31
  · refine lv_sipush (v := 1000) fx.1 fx.2.1 dX2_takePart_12 (by decide) ?_
    cases gOk_some hok
    exact g_iret fx hw hr dX2_takePart_15
theorem dX2_readSum_0 : decode cX2_readSum 0 = .ok (.aload_n 0, 1) := by decide +kernel
theorem dX2_readSum_1 : decode cX2_readSum 1 = .ok (.getfield 15, 3) := by decide +kernel
theorem dX2_readSum_4 : decode cX2_readSum 4 = .ok (.aload_n 0, 1) := by decide +kernel
theorem dX2_readSum_5 : decode cX2_readSum 5 = .ok (.invokevirtual 106, 3) := by decide +kernel
theorem dX2_readSum_8 : decode cX2_readSum 8 = .ok (.invokevirtual 79, 3) := by decide +kernel
theorem dX2_readSum_11 : decode cX2_readSum 11 = .ok (.iconst 0, 1) := by decide +kernel
theorem dX2_readSum_12 : decode cX2_readSum 12 = .ok (.istore_n 1, 1) := by decide +kernel
theorem dX2_readSum_13 : decode cX2_readSum 13 = .ok (.iload_n 1, 1) := by decide +kernel
theorem dX2_readSum_14 : decode cX2_readSum 14 = .ok (.sipush 400, 3) := by decide +kernel
theorem dX2_readSum_17 : decode cX2_readSum 17 = .ok (.if_icmp .ge 42, 3) := by decide +kernel
theorem dX2_readSum_20 : decode cX2_readSum 20 = .ok (.aload_n 0, 1) := by decide +kernel
theorem dX2_readSum_21 : decode cX2_readSum 21 = .ok (.getfield 9, 3) := by decide +kernel
theorem dX2_readSum_24 : decode cX2_readSum 24 = .ok (.bipush 43, 2) := by decide +kernel
theorem dX2_readSum_26 : decode cX2_readSum 26 = .ok (.invokevirtual 88, 3) := by decide +kernel
theorem dX2_readSum_29 : decode cX2_readSum 29 = .ok (.ifCond .eq 30, 3) := by decide +kernel
theorem dX2_readSum_32 : decode cX2_readSum 32 = .ok (.aload_n 0, 1) := by decide +kernel
theorem dX2_readSum_33 : decode cX2_readSum 33 = .ok (.getfield 15, 3) := by decide +kernel
theorem dX2_readSum_36 : decode cX2_readSum 36 = .ok (.aload_n 0, 1) := by decide +kernel
theorem dX2_readSum_37 : decode cX2_readSum 37 = .ok (.invokevirtual 106, 3) := by decide +kernel
theorem dX2_readSum_40 : decode cX2_readSum 40 = .ok (.invokevirtual 79, 3) := by decide +kernel
theorem dX2_readSum_43 : decode cX2_readSum 43 = .ok (.aload_n 0, 1) := by decide +kernel
theorem dX2_readSum_44 : decode cX2_readSum 44 = .ok (.getfield 15, 3) := by decide +kernel
theorem dX2_readSum_47 : decode cX2_readSum 47 = .ok (.sipush 2005, 3) := by decide +kernel
theorem dX2_readSum_50 : decode cX2_readSum 50 = .ok (.invokevirtual 79, 3) := by decide +kernel
theorem dX2_readSum_53 : decode cX2_readSum 53 = .ok (.iinc 1 1, 3) := by decide +kernel
theorem dX2_readSum_56 : decode cX2_readSum 56 = .ok (.goto (-43), 3) := by decide +kernel
theorem dX2_readSum_59 : decode cX2_readSum 59 = .ok (.return_, 1) := by decide +kernel
theorem lf_RX2_15 : gLf RX2 15 2 1 := ⟨(RX2, TX2, 2), rfl, by decide, wA_t (wt1 (List.mem_of_getElem? (i := 86) (by decide +kernel))) (by decide +kernel), rfl⟩
theorem lv_RX2_106 : gLv RX2 106 RX2 yX2_takePart cX2_takePart 1 (some .int) 0 := gLv_of (wA_t (wt4 (List.mem_of_getElem? (i := 211) (by decide +kernel))) (by decide +kernel)) (wA_t (wt4 (List.mem_of_getElem? (i := 213) (by decide +kernel))) (by decide +kernel)) (wA_of (List.mem_append_left _ (List.mem_map.mpr ⟨(⟨"YearRope$LawReader", "takePart", "()I"⟩, 2), wp2 (List.mem_of_getElem? (i := 7) (by decide +kernel)), rfl⟩)) (by decide +kernel)) (wA_t (wt1 (List.mem_of_getElem? (i := 4) (by decide +kernel))) (by decide +kernel)) (wA_t (wt4 (List.mem_of_getElem? (i := 214) (by decide +kernel))) (by decide +kernel)) ⟨rfl, by decide +kernel, by decide +kernel, by decide +kernel⟩
theorem lv_RX2_79 : gLv RX2 79 RX1 yX1_emit cX1_emit 2 none 1 := gLv_of (wA_t (wt4 (List.mem_of_getElem? (i := 200) (by decide +kernel))) (by decide +kernel)) (wA_t (wt4 (List.mem_of_getElem? (i := 201) (by decide +kernel))) (by decide +kernel)) (wA_t (wt4 (List.mem_of_getElem? (i := 202) (by decide +kernel))) (by decide +kernel)) (wA_t (wt1 (List.mem_of_getElem? (i := 11) (by decide +kernel))) (by decide +kernel)) (wA_t (wt4 (List.mem_of_getElem? (i := 203) (by decide +kernel))) (by decide +kernel)) ⟨rfl, by decide +kernel, by decide +kernel, by decide +kernel⟩
theorem lv_RX2_88 : gLv RX2 88 RX7 yX7_takeSign cX7_takeSign 2 (some .boolean) 1 := gLv_of (wA_t (wt4 (List.mem_of_getElem? (i := 195) (by decide +kernel))) (by decide +kernel)) (wA_t (wt4 (List.mem_of_getElem? (i := 67) (by decide +kernel))) (by decide +kernel)) (wA_t (wt4 (List.mem_of_getElem? (i := 68) (by decide +kernel))) (by decide +kernel)) (wA_t (wt1 (List.mem_of_getElem? (i := 2) (by decide +kernel))) (by decide +kernel)) (wA_t (wt4 (List.mem_of_getElem? (i := 69) (by decide +kernel))) (by decide +kernel)) ⟨rfl, by decide +kernel, by decide +kernel, by decide +kernel⟩
def rm_X2_readSum : Room := { frames := 6, cells := 0, slots := 0, locals := 202 }
def b_X2_readSum_13 (τ : gτ) (n : Nat) (x0 : Nat) (x1 : Int32) (G : gG) : Option ((Int32 × gG) ⊕ ((gG))) :=
  if (400 : Int32) ≤ x1 then (some (.inr G))
  else ((gr G 2 0 x0).bind fun a5 =>
  gBind2 (f_X7_takeSign τ n a5 (43 : Int32) G) fun v6 G7 =>
  if v6 = 0 then (some (.inr G7))
  else ((gr G7 2 1 x0).bind fun a8 =>
  gBind2 (f_X2_takePart τ n x0 G7) fun v9 G10 =>
  (f_X1_emit τ a8 v9 G10).bind fun G11 =>
  (gr G11 2 1 x0).bind fun a12 =>
  (f_X1_emit τ a12 (2005 : Int32) G11).bind fun G13 =>
  gLet (x1 + 1) fun v14 =>
  some (.inl (v14, G13))))
def l_X2_readSum_13 (τ : gτ) (n : Nat) (x0 : Nat) (x1 : Int32) (G : gG) : Option ((gG)) :=
  gIter (fun (q : Int32 × gG) => b_X2_readSum_13 τ n x0 q.1 q.2) n (x1, G)
def f_X2_readSum (τ : gτ) (n : Nat) (x0 : Nat) (G : gG) : Option (gG) :=
  (gr G 2 1 x0).bind fun a1 =>
  gBind2 (f_X2_takePart τ n x0 G) fun v2 G3 =>
  (f_X1_emit τ a1 v2 G3).bind fun G4 =>
  (l_X2_readSum_13 τ n x0 (0 : Int32) G4).bind fun q => gLet q fun G15 => 
  some G15
set_option maxHeartbeats 4000000 in
set_option maxRecDepth 100000 in
theorem w_b_X2_readSum_13 {X : gX} {τ : gτ} {p : Program} {l : Launch} {e : Env} {s : State} {m : MethodId} {args : Array Value} {below : List Frame} {meth : Method} {c : Code} (fx : gFx X p s m args meth c cX2_readSum 2 RX2) (hS : gS0 l X) (n : Nat) (x0 : Nat) (x1 : Int32) (h0 : gK τ x0 2) {Q : State → Prop} {K : ((Int32 × gG) ⊕ ((gG))) → Prop} {G : gG} {H : Heap} {locs : List Loc} {ls : Array Slot} (hw : gHw X τ G H locs) (hl : lv_has ls 2 [(0, .ref x0), (1, .int x1)]) (hok : gOk (b_X2_readSum_13 τ n x0 x1 G) K) (hc : ∀ (y1 : Int32) (G : gG) (H : Heap) (locs : List Loc) (ls : Array Slot), gHw X τ G H locs → lv_has ls 2 [(0, .ref x0), (1, .int y1)] → K (.inl (y1, G)) → W p l e rm_X2_readSum s m args below meth c H locs 0 0 Q (F0 m 13 ls [])) (hx0 : ∀ (G : gG) (H : Heap) (locs : List Loc) (ls : Array Slot), gHw X τ G H locs → lv_has ls 2 [] → K (.inr G) → W p l e rm_X2_readSum s m args below meth c H locs 0 0 Q (F0 m 59 ls [])) : W p l e rm_X2_readSum s m args below meth c H locs 0 0 Q (F0 m 13 ls []) := by
  unfold b_X2_readSum_13 at hok
  refine lv_iload_n fx.1 fx.2.1 dX2_readSum_13 rfl (lv_at hl 1 rfl) ?_
  refine lv_sipush (v := 400) fx.1 fx.2.1 dX2_readSum_14 (by decide) ?_
  refine g_icmp_ge (tgt := 59) fx dX2_readSum_17 (by decide) hok (fun hok => ?_) (fun hok => ?_)
  · exact hx0  G _ _ _  hw (lv_sub hl [] rfl) (gOk_some hok)
  · refine lv_aload_n fx.1 fx.2.1 dX2_readSum_20 rfl (lv_at hl 0 rfl) ?_
    refine g_getr fx hw h0 lf_RX2_9 rfl dX2_readSum_21 hok (fun a5 h_a5 hok => ?_)
    refine lv_bipush (v := 43) fx.1 fx.2.1 dX2_readSum_24 (by decide) ?_
    obtain ⟨v6, G7, hf, hok⟩ := gOk_bind2 hok
    refine g_callV0 (κ := 7) fx hw (c_X7_takeSign l X τ n a5 (43 : Int32) G h_a5 hf) lv_RX2_88 ⟨rfl, rfl⟩ rfl rfl h_a5 rfl hl.1 rfl ⟨Nat.le_of_ble_eq_true rfl, Nat.le_of_ble_eq_true rfl⟩ (Nat.le_of_ble_eq_true rfl) ⟨Nat.le_of_ble_eq_true rfl, Nat.le_of_ble_eq_true rfl⟩ dX2_readSum_26 (fun H locs hw => ?_)
    refine g_if_eq (tgt := 59) fx dX2_readSum_29 (by decide) hok (fun hok => ?_) (fun hok => ?_)
    · exact hx0  G7 _ _ _  hw (lv_sub hl [] rfl) (gOk_some hok)
    · refine lv_aload_n fx.1 fx.2.1 dX2_readSum_32 rfl (lv_at hl 0 rfl) ?_
      refine g_getr fx hw h0 lf_RX2_15 rfl dX2_readSum_33 hok (fun a8 h_a8 hok => ?_)
      refine lv_aload_n fx.1 fx.2.1 dX2_readSum_36 rfl (lv_at hl 0 rfl) ?_
      obtain ⟨v9, G10, hf, hok⟩ := gOk_bind2 hok
      refine g_callV0 (κ := 2) fx hw (c_X2_takePart l X τ n hS x0 G7 h0 hf) lv_RX2_106 ⟨rfl, rfl⟩ rfl rfl h0 rfl hl.1 rfl ⟨Nat.le_of_ble_eq_true rfl, Nat.le_of_ble_eq_true rfl⟩ (Nat.le_of_ble_eq_true rfl) ⟨Nat.le_of_ble_eq_true rfl, Nat.le_of_ble_eq_true rfl⟩ dX2_readSum_37 (fun H locs hw => ?_)
      obtain ⟨G11, hf, hok⟩ := gOk_bind hok
      refine g_callV0 (κ := 1) fx hw (c_X1_emit l X τ a8 v9 G10 h_a8 hf) lv_RX2_79 ⟨rfl, rfl⟩ rfl rfl h_a8 rfl hl.1 rfl ⟨Nat.le_of_ble_eq_true rfl, Nat.le_of_ble_eq_true rfl⟩ (Nat.le_of_ble_eq_true rfl) ⟨Nat.le_of_ble_eq_true rfl, Nat.le_of_ble_eq_true rfl⟩ dX2_readSum_40 (fun H locs hw => ?_)
      refine lv_aload_n fx.1 fx.2.1 dX2_readSum_43 rfl (lv_at hl 0 rfl) ?_
      refine g_getr fx hw h0 lf_RX2_15 rfl dX2_readSum_44 hok (fun a12 h_a12 hok => ?_)
      refine lv_sipush (v := 2005) fx.1 fx.2.1 dX2_readSum_47 (by decide) ?_
      obtain ⟨G13, hf, hok⟩ := gOk_bind hok
      refine g_callV0 (κ := 1) fx hw (c_X1_emit l X τ a12 (2005 : Int32) G11 h_a12 hf) lv_RX2_79 ⟨rfl, rfl⟩ rfl rfl h_a12 rfl hl.1 rfl ⟨Nat.le_of_ble_eq_true rfl, Nat.le_of_ble_eq_true rfl⟩ (Nat.le_of_ble_eq_true rfl) ⟨Nat.le_of_ble_eq_true rfl, Nat.le_of_ble_eq_true rfl⟩ dX2_readSum_50 (fun H locs hw => ?_)
      obtain ⟨v14, e_v14, hok⟩ := gOk_let hok
      refine lv_iinc (v := v14) (lv' := [(1, .int v14), (0, .ref x0)]) fx.1 fx.2.1 dX2_readSum_53 hl (k := 1) rfl (by rw [e_v14]; rfl) (by decide) rfl (fun ls hl => ?_)
      refine lv_goto (tgt := 13) fx.1 fx.2.1 dX2_readSum_56 (by decide) ?_
      exact hc v14 G13 _ _ _  hw (lv_sub hl [1, 0] rfl) (gOk_some hok)
theorem w_l_X2_readSum_13 {X : gX} {τ : gτ} {p : Program} {l : Launch} {e : Env} {s : State} {m : MethodId} {args : Array Value} {below : List Frame} {meth : Method} {c : Code} (fx : gFx X p s m args meth c cX2_readSum 2 RX2) (hS : gS0 l X) (n : Nat) (x0 : Nat) (h0 : gK τ x0 2) {Q : State → Prop} {K : ((gG)) → Prop} (hx0 : ∀ (G : gG) (H : Heap) (locs : List Loc) (ls : Array Slot), gHw X τ G H locs → lv_has ls 2 [] → K G → W p l e rm_X2_readSum s m args below meth c H locs 0 0 Q (F0 m 59 ls [])) : ∀ (k : Nat) (x1 : Int32) (G : gG) (H : Heap) (locs : List Loc) (ls : Array Slot), gHw X τ G H locs → lv_has ls 2 [(0, .ref x0), (1, .int x1)] → gOk (gIter (fun (q : Int32 × gG) => b_X2_readSum_13 τ n x0 q.1 q.2) k (x1, G)) K → W p l e rm_X2_readSum s m args below meth c H locs 0 0 Q (F0 m 13 ls []) := by
  intro k
  induction k with
  | zero =>
    intro x1 G H locs ls hw hl hok
    exact gOk_iter0 hok
  | succ k hc =>
    intro x1 G H locs ls hw hl hok
    exact w_b_X2_readSum_13 fx hS n x0 x1 h0 hw hl (gOk_iter hok) hc hx0
set_option maxHeartbeats 4000000 in
set_option maxRecDepth 100000 in
theorem c_X2_readSum (l : Launch) (X : gX) (τ : gτ) (n : Nat) (hS : gS0 l X) (x0 : Nat) (G : gG) (h0 : gK τ x0 2) {G' : gG} (h : f_X2_readSum τ n x0 G = some G') : gM l X τ yX2_readSum cX2_readSum 2 none rm_X2_readSum [.ref x0] G none G' := by
  refine g_body (by decide +kernel) (Nat.le_of_ble_eq_true rfl) ?_
  intro p e s m args below meth c ls fx hr hw hl
  have fx : gFx X p s m args meth c cX2_readSum 2 RX2 := fx
  have hl : lv_has ls 2 [(0, .ref x0)] := hl
  have hok : gOk (f_X2_readSum τ n x0 G) (fun q => q = G') := ⟨_, h, rfl⟩
  unfold f_X2_readSum at hok
  show W p l e rm_X2_readSum s m args below meth c s.heap [] 0 0 (MQ below (gQ X τ none G') args s 0 0 (gFree X)) _
  refine lv_aload_n fx.1 fx.2.1 dX2_readSum_0 rfl (lv_at hl 0 rfl) ?_
  refine g_getr fx hw h0 lf_RX2_15 rfl dX2_readSum_1 hok (fun a1 h_a1 hok => ?_)
  refine lv_aload_n fx.1 fx.2.1 dX2_readSum_4 rfl (lv_at hl 0 rfl) ?_
  obtain ⟨v2, G3, hf, hok⟩ := gOk_bind2 hok
  refine g_callV0 (κ := 2) fx hw (c_X2_takePart l X τ n hS x0 G h0 hf) lv_RX2_106 ⟨rfl, rfl⟩ rfl rfl h0 rfl hl.1 rfl ⟨Nat.le_of_ble_eq_true rfl, Nat.le_of_ble_eq_true rfl⟩ (Nat.le_of_ble_eq_true rfl) ⟨Nat.le_of_ble_eq_true rfl, Nat.le_of_ble_eq_true rfl⟩ dX2_readSum_5 (fun H locs hw => ?_)
  obtain ⟨G4, hf, hok⟩ := gOk_bind hok
  refine g_callV0 (κ := 1) fx hw (c_X1_emit l X τ a1 v2 G3 h_a1 hf) lv_RX2_79 ⟨rfl, rfl⟩ rfl rfl h_a1 rfl hl.1 rfl ⟨Nat.le_of_ble_eq_true rfl, Nat.le_of_ble_eq_true rfl⟩ (Nat.le_of_ble_eq_true rfl) ⟨Nat.le_of_ble_eq_true rfl, Nat.le_of_ble_eq_true rfl⟩ dX2_readSum_8 (fun H locs hw => ?_)
  refine lv_iconst (v := 0) fx.1 fx.2.1 dX2_readSum_11 (by decide) ?_
  refine lv_istore_n (lv' := [(1, .int (0 : Int32)), (0, .ref x0)]) fx.1 fx.2.1 dX2_readSum_12 rfl hl (by decide) rfl (fun ls hl => ?_)
  refine w_l_X2_readSum_13 fx hS n x0 h0 ?_ n (0 : Int32) G4 _ _ _  hw (lv_sub hl [1, 0] rfl) (gOk_bindK hok)
  intro G15 H locs ls hw hl hok
  have hok : gOk (ρ := gG) (some G15) _ := hok
  cases gOk_some hok
  exact g_vret fx hw hr dX2_readSum_59
def rm_r_X2 (d : Nat) : Room := { frames := d + 20, cells := 0, slots := 0, locals := 40 * d + 400 }
theorem dX2_readAtom_0 : decode cX2_readAtom 0 = .ok (.aload_n 0, 1) := by decide +kernel
theorem dX2_readAtom_1 : decode cX2_readAtom 1 = .ok (.getfield 9, 3) := by decide +kernel
theorem dX2_readAtom_4 : decode cX2_readAtom 4 = .ok (.getfield 82, 3) := by decide +kernel
theorem dX2_readAtom_7 : decode cX2_readAtom 7 = .ok (.istore_n 2, 1) := by decide +kernel
theorem dX2_readAtom_8 : decode cX2_readAtom 8 = .ok (.aload_n 0, 1) := by decide +kernel
theorem dX2_readAtom_9 : decode cX2_readAtom 9 = .ok (.getfield 9, 3) := by decide +kernel
theorem dX2_readAtom_12 : decode cX2_readAtom 12 = .ok (.ldc 86, 2) := by decide +kernel
theorem dX2_readAtom_14 : decode cX2_readAtom 14 = .ok (.invokevirtual 33, 3) := by decide +kernel
theorem dX2_readAtom_17 : decode cX2_readAtom 17 = .ok (.istore_n 3, 1) := by decide +kernel
theorem dX2_readAtom_18 : decode cX2_readAtom 18 = .ok (.iload_n 3, 1) := by decide +kernel
theorem dX2_readAtom_19 : decode cX2_readAtom 19 = .ok (.ifCond .ne 15, 3) := by decide +kernel
theorem dX2_readAtom_22 : decode cX2_readAtom 22 = .ok (.aload_n 0, 1) := by decide +kernel
theorem dX2_readAtom_23 : decode cX2_readAtom 23 = .ok (.getfield 9, 3) := by decide +kernel
theorem dX2_readAtom_26 : decode cX2_readAtom 26 = .ok (.bipush 40, 2) := by decide +kernel
theorem dX2_readAtom_28 : decode cX2_readAtom 28 = .ok (.invokevirtual 88, 3) := by decide +kernel
theorem dX2_readAtom_31 : decode cX2_readAtom 31 = .ok (.ifCond .eq 7, 3) := by decide +kernel
theorem dX2_readAtom_34 : decode cX2_readAtom 34 = .ok (.iconst 1, 1) := by decide +kernel
theorem dX2_readAtom_35 : decode cX2_readAtom 35 = .ok (.goto 4, 3) := by decide +kernel
theorem dX2_readAtom_38 : decode cX2_readAtom 38 = .ok (.iconst 0, 1) := by decide +kernel
theorem dX2_readAtom_39 : decode cX2_readAtom 39 = .ok (.istore 4, 2) := by decide +kernel
theorem dX2_readAtom_41 : decode cX2_readAtom 41 = .ok (.iload 4, 2) := by decide +kernel
theorem dX2_readAtom_43 : decode cX2_readAtom 43 = .ok (.ifCond .eq 20, 3) := by decide +kernel
theorem dX2_readAtom_46 : decode cX2_readAtom 46 = .ok (.iload_n 1, 1) := by decide +kernel
theorem dX2_readAtom_47 : decode cX2_readAtom 47 = .ok (.bipush 6, 2) := by decide +kernel
theorem dX2_readAtom_49 : decode cX2_readAtom 49 = .ok (.if_icmp .lt 14, 3) := by decide +kernel
theorem dX2_readAtom_52 : decode cX2_readAtom 52 = .ok (.aload_n 0, 1) := by decide +kernel
theorem dX2_readAtom_53 : decode cX2_readAtom 53 = .ok (.getfield 9, 3) := by decide +kernel
theorem dX2_readAtom_56 : decode cX2_readAtom 56 = .ok (.iload_n 2, 1) := by decide +kernel
theorem dX2_readAtom_57 : decode cX2_readAtom 57 = .ok (.invokevirtual 92, 3) := by decide +kernel
theorem dX2_readAtom_60 : decode cX2_readAtom 60 = .ok (.goto 155, 3) := by decide +kernel
theorem dX2_readAtom_63 : decode cX2_readAtom 63 = .ok (.iload_n 3, 1) := by decide +kernel
theorem dX2_readAtom_64 : decode cX2_readAtom 64 = .ok (.ifCond .eq 23, 3) := by decide +kernel
theorem dX2_readAtom_67 : decode cX2_readAtom 67 = .ok (.aload_n 0, 1) := by decide +kernel
theorem dX2_readAtom_68 : decode cX2_readAtom 68 = .ok (.iload_n 1, 1) := by decide +kernel
theorem dX2_readAtom_69 : decode cX2_readAtom 69 = .ok (.iconst 1, 1) := by decide +kernel
theorem dX2_readAtom_70 : decode cX2_readAtom 70 = .ok (.iadd, 1) := by decide +kernel
theorem dX2_readAtom_71 : decode cX2_readAtom 71 = .ok (.invokevirtual 74, 3) := by decide +kernel
theorem dX2_readAtom_74 : decode cX2_readAtom 74 = .ok (.aload_n 0, 1) := by decide +kernel
theorem dX2_readAtom_75 : decode cX2_readAtom 75 = .ok (.getfield 15, 3) := by decide +kernel
theorem dX2_readAtom_78 : decode cX2_readAtom 78 = .ok (.sipush 2000, 3) := by decide +kernel
theorem dX2_readAtom_81 : decode cX2_readAtom 81 = .ok (.invokevirtual 79, 3) := by decide +kernel
theorem dX2_readAtom_84 : decode cX2_readAtom 84 = .ok (.goto 131, 3) := by decide +kernel
theorem dX2_readAtom_87 : decode cX2_readAtom 87 = .ok (.iload 4, 2) := by decide +kernel
theorem dX2_readAtom_89 : decode cX2_readAtom 89 = .ok (.ifCond .eq 22, 3) := by decide +kernel
theorem dX2_readAtom_92 : decode cX2_readAtom 92 = .ok (.aload_n 0, 1) := by decide +kernel
theorem dX2_readAtom_93 : decode cX2_readAtom 93 = .ok (.iload_n 1, 1) := by decide +kernel
theorem dX2_readAtom_94 : decode cX2_readAtom 94 = .ok (.iconst 1, 1) := by decide +kernel
theorem dX2_readAtom_95 : decode cX2_readAtom 95 = .ok (.iadd, 1) := by decide +kernel
theorem dX2_readAtom_96 : decode cX2_readAtom 96 = .ok (.invokevirtual 47, 3) := by decide +kernel
theorem dX2_readAtom_99 : decode cX2_readAtom 99 = .ok (.aload_n 0, 1) := by decide +kernel
theorem dX2_readAtom_100 : decode cX2_readAtom 100 = .ok (.getfield 9, 3) := by decide +kernel
theorem dX2_readAtom_103 : decode cX2_readAtom 103 = .ok (.bipush 41, 2) := by decide +kernel
theorem dX2_readAtom_105 : decode cX2_readAtom 105 = .ok (.invokevirtual 95, 3) := by decide +kernel
theorem dX2_readAtom_108 : decode cX2_readAtom 108 = .ok (.goto 107, 3) := by decide +kernel
theorem dX2_readAtom_111 : decode cX2_readAtom 111 = .ok (.aload_n 0, 1) := by decide +kernel
theorem dX2_readAtom_112 : decode cX2_readAtom 112 = .ok (.getfield 9, 3) := by decide +kernel
theorem dX2_readAtom_115 : decode cX2_readAtom 115 = .ok (.ldc 99, 2) := by decide +kernel
theorem dX2_readAtom_117 : decode cX2_readAtom 117 = .ok (.invokevirtual 33, 3) := by decide +kernel
theorem dX2_readAtom_120 : decode cX2_readAtom 120 = .ok (.ifCond .eq 16, 3) := by decide +kernel
theorem dX2_readAtom_123 : decode cX2_readAtom 123 = .ok (.aload_n 0, 1) := by decide +kernel
theorem dX2_readAtom_124 : decode cX2_readAtom 124 = .ok (.getfield 15, 3) := by decide +kernel
theorem dX2_readAtom_127 : decode cX2_readAtom 127 = .ok (.sipush 1009, 3) := by decide +kernel
theorem dX2_readAtom_130 : decode cX2_readAtom 130 = .ok (.invokevirtual 79, 3) := by decide +kernel
theorem dX2_readAtom_133 : decode cX2_readAtom 133 = .ok (.goto 82, 3) := by decide +kernel
theorem dX2_readAtom_136 : decode cX2_readAtom 136 = .ok (.aload_n 0, 1) := by decide +kernel
theorem dX2_readAtom_137 : decode cX2_readAtom 137 = .ok (.getfield 9, 3) := by decide +kernel
theorem dX2_readAtom_140 : decode cX2_readAtom 140 = .ok (.ldc 101, 2) := by decide +kernel
theorem dX2_readAtom_142 : decode cX2_readAtom 142 = .ok (.invokevirtual 33, 3) := by decide +kernel
theorem dX2_readAtom_145 : decode cX2_readAtom 145 = .ok (.ifCond .eq 16, 3) := by decide +kernel
theorem dX2_readAtom_148 : decode cX2_readAtom 148 = .ok (.aload_n 0, 1) := by decide +kernel
theorem dX2_readAtom_149 : decode cX2_readAtom 149 = .ok (.getfield 15, 3) := by decide +kernel
theorem dX2_readAtom_152 : decode cX2_readAtom 152 = .ok (.sipush 1010, 3) := by decide +kernel
theorem dX2_readAtom_155 : decode cX2_readAtom 155 = .ok (.invokevirtual 79, 3) := by decide +kernel
theorem dX2_readAtom_158 : decode cX2_readAtom 158 = .ok (.goto 57, 3) := by decide +kernel
theorem dX2_readAtom_161 : decode cX2_readAtom 161 = .ok (.aload_n 0, 1) := by decide +kernel
theorem dX2_readAtom_162 : decode cX2_readAtom 162 = .ok (.invokevirtual 103, 3) := by decide +kernel
theorem dX2_readAtom_165 : decode cX2_readAtom 165 = .ok (.aload_n 0, 1) := by decide +kernel
theorem dX2_readAtom_166 : decode cX2_readAtom 166 = .ok (.getfield 9, 3) := by decide +kernel
theorem dX2_readAtom_169 : decode cX2_readAtom 169 = .ok (.bipush 60, 2) := by decide +kernel
theorem dX2_readAtom_171 : decode cX2_readAtom 171 = .ok (.invokevirtual 88, 3) := by decide +kernel
theorem dX2_readAtom_174 : decode cX2_readAtom 174 = .ok (.istore 5, 2) := by decide +kernel
theorem dX2_readAtom_176 : decode cX2_readAtom 176 = .ok (.iload 5, 2) := by decide +kernel
theorem dX2_readAtom_178 : decode cX2_readAtom 178 = .ok (.ifCond .ne 12, 3) := by decide +kernel
theorem dX2_readAtom_181 : decode cX2_readAtom 181 = .ok (.aload_n 0, 1) := by decide +kernel
theorem dX2_readAtom_182 : decode cX2_readAtom 182 = .ok (.getfield 9, 3) := by decide +kernel
theorem dX2_readAtom_185 : decode cX2_readAtom 185 = .ok (.bipush 62, 2) := by decide +kernel
theorem dX2_readAtom_187 : decode cX2_readAtom 187 = .ok (.invokevirtual 95, 3) := by decide +kernel
theorem dX2_readAtom_190 : decode cX2_readAtom 190 = .ok (.aload_n 0, 1) := by decide +kernel
theorem dX2_readAtom_191 : decode cX2_readAtom 191 = .ok (.invokevirtual 103, 3) := by decide +kernel
theorem dX2_readAtom_194 : decode cX2_readAtom 194 = .ok (.aload_n 0, 1) := by decide +kernel
theorem dX2_readAtom_195 : decode cX2_readAtom 195 = .ok (.getfield 15, 3) := by decide +kernel
theorem dX2_readAtom_198 : decode cX2_readAtom 198 = .ok (.iload 5, 2) := by decide +kernel
theorem dX2_readAtom_200 : decode cX2_readAtom 200 = .ok (.ifCond .eq 9, 3) := by decide +kernel
theorem dX2_readAtom_203 : decode cX2_readAtom 203 = .ok (.sipush 2003, 3) := by decide +kernel
theorem dX2_readAtom_206 : decode cX2_readAtom 206 = .ok (.goto 6, 3) := by decide +kernel
theorem dX2_readAtom_209 : decode cX2_readAtom 209 = .ok (.sipush 2004, 3) := by decide +kernel
theorem dX2_readAtom_212 : decode cX2_readAtom 212 = .ok (.invokevirtual 79, 3) := by decide +kernel
theorem dX2_readAtom_215 : decode cX2_readAtom 215 = .ok (.return_, 1) := by decide +kernel
theorem lf_RX2_82 : gLf RX2 82 7 3 := ⟨(RX7, TX7, 6), rfl, by decide, wA_t (wt1 (List.mem_of_getElem? (i := 48) (by decide +kernel))) (by decide +kernel), rfl⟩
theorem lv_RX2_103 : gLv RX2 103 RX2 yX2_readSum cX2_readSum 2 none 0 := gLv_of (wA_t (wt4 (List.mem_of_getElem? (i := 207) (by decide +kernel))) (by decide +kernel)) (wA_t (wt4 (List.mem_of_getElem? (i := 209) (by decide +kernel))) (by decide +kernel)) (wA_of (List.mem_append_left _ (List.mem_map.mpr ⟨(⟨"YearRope$LawReader", "readSum", "()V"⟩, 2), wp2 (List.mem_of_getElem? (i := 6) (by decide +kernel)), rfl⟩)) (by decide +kernel)) (wA_t (wt1 (List.mem_of_getElem? (i := 4) (by decide +kernel))) (by decide +kernel)) (wA_t (wt4 (List.mem_of_getElem? (i := 210) (by decide +kernel))) (by decide +kernel)) ⟨rfl, by decide +kernel, by decide +kernel, by decide +kernel⟩
theorem lv_RX2_95 : gLv RX2 95 RX7 yX7_needSign cX7_needSign 2 none 1 := gLv_of (wA_t (wt4 (List.mem_of_getElem? (i := 204) (by decide +kernel))) (by decide +kernel)) (wA_t (wt4 (List.mem_of_getElem? (i := 63) (by decide +kernel))) (by decide +kernel)) (wA_t (wt4 (List.mem_of_getElem? (i := 64) (by decide +kernel))) (by decide +kernel)) (wA_t (wt1 (List.mem_of_getElem? (i := 2) (by decide +kernel))) (by decide +kernel)) (wA_t (wt4 (List.mem_of_getElem? (i := 65) (by decide +kernel))) (by decide +kernel)) ⟨rfl, by decide +kernel, by decide +kernel, by decide +kernel⟩
theorem lv_RX2_47 : gLv RX2 47 RX2 yX2_readCondition cX2_readCondition 4 none 1 := gLv_of (wA_t (wt4 (List.mem_of_getElem? (i := 185) (by decide +kernel))) (by decide +kernel)) (wA_t (wt4 (List.mem_of_getElem? (i := 187) (by decide +kernel))) (by decide +kernel)) (wA_of (List.mem_append_left _ (List.mem_map.mpr ⟨(⟨"YearRope$LawReader", "readCondition", "(I)V"⟩, 2), wp2 (List.mem_of_getElem? (i := 4) (by decide +kernel)), rfl⟩)) (by decide +kernel)) (wA_t (wt1 (List.mem_of_getElem? (i := 4) (by decide +kernel))) (by decide +kernel)) (wA_t (wt4 (List.mem_of_getElem? (i := 188) (by decide +kernel))) (by decide +kernel)) ⟨rfl, by decide +kernel, by decide +kernel, by decide +kernel⟩
theorem lv_RX2_74 : gLv RX2 74 RX2 yX2_readAtom cX2_readAtom 6 none 1 := gLv_of (wA_t (wt4 (List.mem_of_getElem? (i := 190) (by decide +kernel))) (by decide +kernel)) (wA_t (wt4 (List.mem_of_getElem? (i := 192) (by decide +kernel))) (by decide +kernel)) (wA_of (List.mem_append_left _ (List.mem_map.mpr ⟨(⟨"YearRope$LawReader", "readAtom", "(I)V"⟩, 2), wp2 (List.mem_of_getElem? (i := 5) (by decide +kernel)), rfl⟩)) (by decide +kernel)) (wA_t (wt1 (List.mem_of_getElem? (i := 4) (by decide +kernel))) (by decide +kernel)) (wA_t (wt4 (List.mem_of_getElem? (i := 193) (by decide +kernel))) (by decide +kernel)) ⟨rfl, by decide +kernel, by decide +kernel, by decide +kernel⟩
theorem lv_RX2_92 : gLv RX2 92 RX7 yX7_refuseAt cX7_refuseAt 2 none 1 := gLv_of (wA_t (wt4 (List.mem_of_getElem? (i := 196) (by decide +kernel))) (by decide +kernel)) (wA_t (wt4 (List.mem_of_getElem? (i := 197) (by decide +kernel))) (by decide +kernel)) (wA_t (wt4 (List.mem_of_getElem? (i := 198) (by decide +kernel))) (by decide +kernel)) (wA_t (wt1 (List.mem_of_getElem? (i := 2) (by decide +kernel))) (by decide +kernel)) (wA_t (wt4 (List.mem_of_getElem? (i := 199) (by decide +kernel))) (by decide +kernel)) ⟨rfl, by decide +kernel, by decide +kernel, by decide +kernel⟩
def k_X2_readAtom_212 (τ : gτ) (n : Nat) (F : Nat → Nat → Int32 → gG → Option gG)  (s0 : Nat) (s1 : Int32) (G : gG) : Option (gG) :=
  (f_X1_emit τ s0 s1 G).bind fun G26 =>
  some G26
def k_X2_readAtom_190 (τ : gτ) (n : Nat) (F : Nat → Nat → Int32 → gG → Option gG) (x0 : Nat) (x5 : Int32)  (G : gG) : Option (gG) :=
  (f_X2_readSum τ n x0 G).bind fun G24 =>
  (gr G24 2 1 x0).bind fun a25 =>
  if x5 = 0 then (k_X2_readAtom_212 τ n F  a25 (2004 : Int32) G24)
  else (k_X2_readAtom_212 τ n F  a25 (2003 : Int32) G24)
def k_X2_readAtom_63 (τ : gτ) (n : Nat) (F : Nat → Nat → Int32 → gG → Option gG) (x0 : Nat) (x1 : Int32) (x3 : Int32) (x4 : Int32)  (G : gG) : Option (gG) :=
  if x3 = 0 then (if x4 = 0 then ((gr G 2 0 x0).bind fun a10 =>
  gBind2 (f_X7_takeWord τ n a10 s_whipped G) fun v12 G13 =>
  if v12 = 0 then ((gr G13 2 0 x0).bind fun a14 =>
  gBind2 (f_X7_takeWord τ n a14 s_winter G13) fun v16 G17 =>
  if v16 = 0 then ((f_X2_readSum τ n x0 G17).bind fun G18 =>
  (gr G18 2 0 x0).bind fun a19 =>
  gBind2 (f_X7_takeSign τ n a19 (60 : Int32) G18) fun v20 G21 =>
  if v20 = 0 then ((gr G21 2 0 x0).bind fun a22 =>
  (f_X7_needSign τ n a22 (62 : Int32) G21).bind fun G23 =>
  k_X2_readAtom_190 τ n F x0 v20  G23)
  else (k_X2_readAtom_190 τ n F x0 v20  G21))
  else ((gr G17 2 1 x0).bind fun a27 =>
  (f_X1_emit τ a27 (1010 : Int32) G17).bind fun G28 =>
  some G28))
  else ((gr G13 2 1 x0).bind fun a29 =>
  (f_X1_emit τ a29 (1009 : Int32) G13).bind fun G30 =>
  some G30))
  else ((F 0 x0 (x1 + (1 : Int32)) G).bind fun G31 =>
  (gr G31 2 0 x0).bind fun a32 =>
  (f_X7_needSign τ n a32 (41 : Int32) G31).bind fun G33 =>
  some G33))
  else ((F 1 x0 (x1 + (1 : Int32)) G).bind fun G34 =>
  (gr G34 2 1 x0).bind fun a35 =>
  (f_X1_emit τ a35 (2000 : Int32) G34).bind fun G36 =>
  some G36)
def k_X2_readAtom_39 (τ : gτ) (n : Nat) (F : Nat → Nat → Int32 → gG → Option gG) (x0 : Nat) (x1 : Int32) (x2 : Int32) (x3 : Int32) (s0 : Int32) (G : gG) : Option (gG) :=
  if s0 = 0 then (k_X2_readAtom_63 τ n F x0 x1 x3 s0  G)
  else (if x1 < (6 : Int32) then (k_X2_readAtom_63 τ n F x0 x1 x3 s0  G)
  else ((gr G 2 0 x0).bind fun a37 =>
  (f_X7_refuseAt a37 x2 G).bind fun G38 =>
  some G38))
def k_X2_readAtom_34 (τ : gτ) (n : Nat) (F : Nat → Nat → Int32 → gG → Option gG) (x0 : Nat) (x1 : Int32) (x2 : Int32) (x3 : Int32)  (G : gG) : Option (gG) :=
  k_X2_readAtom_39 τ n F x0 x1 x2 x3 (1 : Int32) G
def e_X2_readAtom (τ : gτ) (n : Nat) (F : Nat → Nat → Int32 → gG → Option gG) (x0 : Nat) (x1 : Int32) (G : gG) : Option (gG) :=
  (gr G 2 0 x0).bind fun a1 =>
  gLet (gi G 7 3 a1) fun v2 =>
  (gr G 2 0 x0).bind fun a3 =>
  gBind2 (f_X7_takeWord τ n a3 s_not G) fun v5 G6 =>
  if v5 = 0 then ((gr G6 2 0 x0).bind fun a7 =>
  gBind2 (f_X7_takeSign τ n a7 (40 : Int32) G6) fun v8 G9 =>
  if v8 = 0 then (k_X2_readAtom_39 τ n F x0 x1 v2 v5 (0 : Int32) G9)
  else (k_X2_readAtom_34 τ n F x0 x1 v2 v5  G9))
  else (k_X2_readAtom_34 τ n F x0 x1 v2 v5  G6)
set_option maxHeartbeats 4000000 in
set_option maxRecDepth 100000 in
theorem w_X2_readAtom_212 {X : gX} {τ : gτ} {p : Program} {l : Launch} {e : Env} {s : State} {m : MethodId} {args : Array Value} {below : List Frame} {meth : Method} {c : Code} (fx : gFx X p s m args meth c cX2_readAtom 6 RX2) (hS : gS0 l X) (F : Nat → Nat → Int32 → gG → Option gG) (d : Nat) (hF0 : ∀ (x0 : Nat) (x1 : Int32) (G : gG) (G' : gG), gK τ x0 2 → F 0 x0 x1 G = some G' → gM l X τ yX2_readCondition cX2_readCondition 4 none (rm_r_X2 d) [.ref x0, .int x1] G none G') (hF1 : ∀ (x0 : Nat) (x1 : Int32) (G : gG) (G' : gG), gK τ x0 2 → F 1 x0 x1 G = some G' → gM l X τ yX2_readAtom cX2_readAtom 6 none (rm_r_X2 d) [.ref x0, .int x1] G none G')  (n : Nat)  (s0 : Nat) (s1 : Int32)  (hs0 : gK τ s0 1) (hr : meth.sig.returnType = none) {G' : gG} {G : gG} {H : Heap} {locs : List Loc} {ls : Array Slot} (hw : gHw X τ G H locs) (hl : lv_has ls 6 []) (hok : gOk (k_X2_readAtom_212 τ n F  s0 s1 G) (fun q => q = G'))  : W p l e (rm_r_X2 (d + 1)) s m args below meth c H locs 0 0 (MQ below (gQ X τ none G') args s 0 0 (gFree X)) (F0 m 212 ls [.int s1, .ref s0]) := by
  unfold k_X2_readAtom_212 at hok
  obtain ⟨G26, hf, hok⟩ := gOk_bind hok
  refine g_callV0 (κ := 1) fx hw (c_X1_emit l X τ s0 s1 G hs0 hf) lv_RX2_79 ⟨rfl, rfl⟩ rfl rfl hs0 rfl hl.1 rfl ⟨by simp only [rm_r_X2, rm_X1_emit]; omega, by simp only [rm_r_X2, rm_X1_emit]; omega⟩ (Nat.le_of_ble_eq_true rfl) ⟨Nat.zero_le _, Nat.zero_le _⟩ dX2_readAtom_212 (fun H locs hw => ?_)
  cases gOk_some hok
  exact g_vret fx hw hr dX2_readAtom_215
set_option maxHeartbeats 4000000 in
set_option maxRecDepth 100000 in
theorem w_X2_readAtom_190 {X : gX} {τ : gτ} {p : Program} {l : Launch} {e : Env} {s : State} {m : MethodId} {args : Array Value} {below : List Frame} {meth : Method} {c : Code} (fx : gFx X p s m args meth c cX2_readAtom 6 RX2) (hS : gS0 l X) (F : Nat → Nat → Int32 → gG → Option gG) (d : Nat) (hF0 : ∀ (x0 : Nat) (x1 : Int32) (G : gG) (G' : gG), gK τ x0 2 → F 0 x0 x1 G = some G' → gM l X τ yX2_readCondition cX2_readCondition 4 none (rm_r_X2 d) [.ref x0, .int x1] G none G') (hF1 : ∀ (x0 : Nat) (x1 : Int32) (G : gG) (G' : gG), gK τ x0 2 → F 1 x0 x1 G = some G' → gM l X τ yX2_readAtom cX2_readAtom 6 none (rm_r_X2 d) [.ref x0, .int x1] G none G')  (n : Nat) (x0 : Nat) (x5 : Int32)  (h0 : gK τ x0 2)  (hr : meth.sig.returnType = none) {G' : gG} {G : gG} {H : Heap} {locs : List Loc} {ls : Array Slot} (hw : gHw X τ G H locs) (hl : lv_has ls 6 [(0, .ref x0), (5, .int x5)]) (hok : gOk (k_X2_readAtom_190 τ n F x0 x5  G) (fun q => q = G'))  : W p l e (rm_r_X2 (d + 1)) s m args below meth c H locs 0 0 (MQ below (gQ X τ none G') args s 0 0 (gFree X)) (F0 m 190 ls []) := by
  unfold k_X2_readAtom_190 at hok
  refine lv_aload_n fx.1 fx.2.1 dX2_readAtom_190 rfl (lv_at hl 0 rfl) ?_
  obtain ⟨G24, hf, hok⟩ := gOk_bind hok
  refine g_callV0 (κ := 2) fx hw (c_X2_readSum l X τ n hS x0 G h0 hf) lv_RX2_103 ⟨rfl, rfl⟩ rfl rfl h0 rfl hl.1 rfl ⟨by simp only [rm_r_X2, rm_X2_readSum]; omega, by simp only [rm_r_X2, rm_X2_readSum]; omega⟩ (Nat.le_of_ble_eq_true rfl) ⟨Nat.zero_le _, Nat.zero_le _⟩ dX2_readAtom_191 (fun H locs hw => ?_)
  refine lv_aload_n fx.1 fx.2.1 dX2_readAtom_194 rfl (lv_at hl 0 rfl) ?_
  refine g_getr fx hw h0 lf_RX2_15 rfl dX2_readAtom_195 hok (fun a25 h_a25 hok => ?_)
  refine lv_iload fx.1 fx.2.1 dX2_readAtom_198 (lv_at hl 1 rfl) ?_
  refine g_if_eq (tgt := 209) fx dX2_readAtom_200 (by decide) hok (fun hok => ?_) (fun hok => ?_)
  · refine lv_sipush (v := 2004) fx.1 fx.2.1 dX2_readAtom_209 (by decide) ?_
    exact w_X2_readAtom_212 fx hS F d hF0 hF1 n  a25 (2004 : Int32)  h_a25 hr hw (lv_sub hl [] rfl) hok
  · refine lv_sipush (v := 2003) fx.1 fx.2.1 dX2_readAtom_203 (by decide) ?_
    refine lv_goto (tgt := 212) fx.1 fx.2.1 dX2_readAtom_206 (by decide) ?_
    exact w_X2_readAtom_212 fx hS F d hF0 hF1 n  a25 (2003 : Int32)  h_a25 hr hw (lv_sub hl [] rfl) hok
set_option maxHeartbeats 4000000 in
set_option maxRecDepth 100000 in
theorem w_X2_readAtom_63 {X : gX} {τ : gτ} {p : Program} {l : Launch} {e : Env} {s : State} {m : MethodId} {args : Array Value} {below : List Frame} {meth : Method} {c : Code} (fx : gFx X p s m args meth c cX2_readAtom 6 RX2) (hS : gS0 l X) (F : Nat → Nat → Int32 → gG → Option gG) (d : Nat) (hF0 : ∀ (x0 : Nat) (x1 : Int32) (G : gG) (G' : gG), gK τ x0 2 → F 0 x0 x1 G = some G' → gM l X τ yX2_readCondition cX2_readCondition 4 none (rm_r_X2 d) [.ref x0, .int x1] G none G') (hF1 : ∀ (x0 : Nat) (x1 : Int32) (G : gG) (G' : gG), gK τ x0 2 → F 1 x0 x1 G = some G' → gM l X τ yX2_readAtom cX2_readAtom 6 none (rm_r_X2 d) [.ref x0, .int x1] G none G')  (n : Nat) (x0 : Nat) (x1 : Int32) (x3 : Int32) (x4 : Int32)  (h0 : gK τ x0 2)  (hr : meth.sig.returnType = none) {G' : gG} {G : gG} {H : Heap} {locs : List Loc} {ls : Array Slot} (hw : gHw X τ G H locs) (hl : lv_has ls 6 [(0, .ref x0), (1, .int x1), (3, .int x3), (4, .int x4)]) (hok : gOk (k_X2_readAtom_63 τ n F x0 x1 x3 x4  G) (fun q => q = G'))  : W p l e (rm_r_X2 (d + 1)) s m args below meth c H locs 0 0 (MQ below (gQ X τ none G') args s 0 0 (gFree X)) (F0 m 63 ls []) := by
  unfold k_X2_readAtom_63 at hok
  refine lv_iload_n fx.1 fx.2.1 dX2_readAtom_63 rfl (lv_at hl 2 rfl) ?_
  refine g_if_eq (tgt := 87) fx dX2_readAtom_64 (by decide) hok (fun hok => ?_) (fun hok => ?_)
  · refine lv_iload fx.1 fx.2.1 dX2_readAtom_87 (lv_at hl 3 rfl) ?_
    refine g_if_eq (tgt := 111) fx dX2_readAtom_89 (by decide) hok (fun hok => ?_) (fun hok => ?_)
    · refine lv_aload_n fx.1 fx.2.1 dX2_readAtom_111 rfl (lv_at hl 0 rfl) ?_
      refine g_getr fx hw h0 lf_RX2_9 rfl dX2_readAtom_112 hok (fun a10 h_a10 hok => ?_)
      refine g_ldcS fx hS gt_RX2_99 dX2_readAtom_115 (fun w11 h_w11 => ?_)
      obtain ⟨v12, G13, hf, hok⟩ := gOk_bind2 hok
      refine g_callV0 (κ := 7) fx hw (c_X7_takeWord l X τ n hS a10 s_whipped G h_a10 h_w11 hf) lv_RX2_33 ⟨rfl, rfl⟩ rfl rfl h_a10 rfl hl.1 rfl ⟨by simp only [rm_r_X2, rm_X7_takeWord]; omega, by simp only [rm_r_X2, rm_X7_takeWord]; omega⟩ (Nat.le_of_ble_eq_true rfl) ⟨Nat.zero_le _, Nat.zero_le _⟩ dX2_readAtom_117 (fun H locs hw => ?_)
      refine g_if_eq (tgt := 136) fx dX2_readAtom_120 (by decide) hok (fun hok => ?_) (fun hok => ?_)
      · refine lv_aload_n fx.1 fx.2.1 dX2_readAtom_136 rfl (lv_at hl 0 rfl) ?_
        refine g_getr fx hw h0 lf_RX2_9 rfl dX2_readAtom_137 hok (fun a14 h_a14 hok => ?_)
        refine g_ldcS fx hS gt_RX2_101 dX2_readAtom_140 (fun w15 h_w15 => ?_)
        obtain ⟨v16, G17, hf, hok⟩ := gOk_bind2 hok
        refine g_callV0 (κ := 7) fx hw (c_X7_takeWord l X τ n hS a14 s_winter G13 h_a14 h_w15 hf) lv_RX2_33 ⟨rfl, rfl⟩ rfl rfl h_a14 rfl hl.1 rfl ⟨by simp only [rm_r_X2, rm_X7_takeWord]; omega, by simp only [rm_r_X2, rm_X7_takeWord]; omega⟩ (Nat.le_of_ble_eq_true rfl) ⟨Nat.zero_le _, Nat.zero_le _⟩ dX2_readAtom_142 (fun H locs hw => ?_)
        refine g_if_eq (tgt := 161) fx dX2_readAtom_145 (by decide) hok (fun hok => ?_) (fun hok => ?_)
        · refine lv_aload_n fx.1 fx.2.1 dX2_readAtom_161 rfl (lv_at hl 0 rfl) ?_
          obtain ⟨G18, hf, hok⟩ := gOk_bind hok
          refine g_callV0 (κ := 2) fx hw (c_X2_readSum l X τ n hS x0 G17 h0 hf) lv_RX2_103 ⟨rfl, rfl⟩ rfl rfl h0 rfl hl.1 rfl ⟨by simp only [rm_r_X2, rm_X2_readSum]; omega, by simp only [rm_r_X2, rm_X2_readSum]; omega⟩ (Nat.le_of_ble_eq_true rfl) ⟨Nat.zero_le _, Nat.zero_le _⟩ dX2_readAtom_162 (fun H locs hw => ?_)
          refine lv_aload_n fx.1 fx.2.1 dX2_readAtom_165 rfl (lv_at hl 0 rfl) ?_
          refine g_getr fx hw h0 lf_RX2_9 rfl dX2_readAtom_166 hok (fun a19 h_a19 hok => ?_)
          refine lv_bipush (v := 60) fx.1 fx.2.1 dX2_readAtom_169 (by decide) ?_
          obtain ⟨v20, G21, hf, hok⟩ := gOk_bind2 hok
          refine g_callV0 (κ := 7) fx hw (c_X7_takeSign l X τ n a19 (60 : Int32) G18 h_a19 hf) lv_RX2_88 ⟨rfl, rfl⟩ rfl rfl h_a19 rfl hl.1 rfl ⟨by simp only [rm_r_X2, rm_X7_takeSign]; omega, by simp only [rm_r_X2, rm_X7_takeSign]; omega⟩ (Nat.le_of_ble_eq_true rfl) ⟨Nat.zero_le _, Nat.zero_le _⟩ dX2_readAtom_171 (fun H locs hw => ?_)
          refine lv_istore (lv' := [(5, .int v20), (0, .ref x0), (1, .int x1), (3, .int x3), (4, .int x4)]) fx.1 fx.2.1 dX2_readAtom_174 hl (by decide) rfl (fun ls hl => ?_)
          refine lv_iload fx.1 fx.2.1 dX2_readAtom_176 (lv_at hl 0 rfl) ?_
          refine g_if_ne (tgt := 190) fx dX2_readAtom_178 (by decide) hok (fun hok => ?_) (fun hok => ?_)
          · refine lv_aload_n fx.1 fx.2.1 dX2_readAtom_181 rfl (lv_at hl 1 rfl) ?_
            refine g_getr fx hw h0 lf_RX2_9 rfl dX2_readAtom_182 hok (fun a22 h_a22 hok => ?_)
            refine lv_bipush (v := 62) fx.1 fx.2.1 dX2_readAtom_185 (by decide) ?_
            obtain ⟨G23, hf, hok⟩ := gOk_bind hok
            refine g_callV0 (κ := 7) fx hw (c_X7_needSign l X τ n a22 (62 : Int32) G21 h_a22 hf) lv_RX2_95 ⟨rfl, rfl⟩ rfl rfl h_a22 rfl hl.1 rfl ⟨by simp only [rm_r_X2, rm_X7_needSign]; omega, by simp only [rm_r_X2, rm_X7_needSign]; omega⟩ (Nat.le_of_ble_eq_true rfl) ⟨Nat.zero_le _, Nat.zero_le _⟩ dX2_readAtom_187 (fun H locs hw => ?_)
            exact w_X2_readAtom_190 fx hS F d hF0 hF1 n x0 v20  h0  hr hw (lv_sub hl [1, 0] rfl) hok
          · exact w_X2_readAtom_190 fx hS F d hF0 hF1 n x0 v20  h0  hr hw (lv_sub hl [1, 0] rfl) hok
        · refine lv_aload_n fx.1 fx.2.1 dX2_readAtom_148 rfl (lv_at hl 0 rfl) ?_
          refine g_getr fx hw h0 lf_RX2_15 rfl dX2_readAtom_149 hok (fun a27 h_a27 hok => ?_)
          refine lv_sipush (v := 1010) fx.1 fx.2.1 dX2_readAtom_152 (by decide) ?_
          obtain ⟨G28, hf, hok⟩ := gOk_bind hok
          refine g_callV0 (κ := 1) fx hw (c_X1_emit l X τ a27 (1010 : Int32) G17 h_a27 hf) lv_RX2_79 ⟨rfl, rfl⟩ rfl rfl h_a27 rfl hl.1 rfl ⟨by simp only [rm_r_X2, rm_X1_emit]; omega, by simp only [rm_r_X2, rm_X1_emit]; omega⟩ (Nat.le_of_ble_eq_true rfl) ⟨Nat.zero_le _, Nat.zero_le _⟩ dX2_readAtom_155 (fun H locs hw => ?_)
          refine lv_goto (tgt := 215) fx.1 fx.2.1 dX2_readAtom_158 (by decide) ?_
          cases gOk_some hok
          exact g_vret fx hw hr dX2_readAtom_215
      · refine lv_aload_n fx.1 fx.2.1 dX2_readAtom_123 rfl (lv_at hl 0 rfl) ?_
        refine g_getr fx hw h0 lf_RX2_15 rfl dX2_readAtom_124 hok (fun a29 h_a29 hok => ?_)
        refine lv_sipush (v := 1009) fx.1 fx.2.1 dX2_readAtom_127 (by decide) ?_
        obtain ⟨G30, hf, hok⟩ := gOk_bind hok
        refine g_callV0 (κ := 1) fx hw (c_X1_emit l X τ a29 (1009 : Int32) G13 h_a29 hf) lv_RX2_79 ⟨rfl, rfl⟩ rfl rfl h_a29 rfl hl.1 rfl ⟨by simp only [rm_r_X2, rm_X1_emit]; omega, by simp only [rm_r_X2, rm_X1_emit]; omega⟩ (Nat.le_of_ble_eq_true rfl) ⟨Nat.zero_le _, Nat.zero_le _⟩ dX2_readAtom_130 (fun H locs hw => ?_)
        refine lv_goto (tgt := 215) fx.1 fx.2.1 dX2_readAtom_133 (by decide) ?_
        cases gOk_some hok
        exact g_vret fx hw hr dX2_readAtom_215
    · refine lv_aload_n fx.1 fx.2.1 dX2_readAtom_92 rfl (lv_at hl 0 rfl) ?_
      refine lv_iload_n fx.1 fx.2.1 dX2_readAtom_93 rfl (lv_at hl 1 rfl) ?_
      refine lv_iconst (v := 1) fx.1 fx.2.1 dX2_readAtom_94 (by decide) ?_
      refine lv_iadd fx.1 fx.2.1 dX2_readAtom_95 ?_
      obtain ⟨G31, hf, hok⟩ := gOk_bind hok
      refine g_callV0 (κ := 2) fx hw (hF0 x0 (x1 + (1 : Int32)) G G31 h0 hf) lv_RX2_47 ⟨rfl, rfl⟩ rfl rfl h0 rfl hl.1 rfl ⟨by simp only [rm_r_X2]; omega, by simp only [rm_r_X2]; omega⟩ (Nat.le_of_ble_eq_true rfl) ⟨Nat.zero_le _, Nat.zero_le _⟩ dX2_readAtom_96 (fun H locs hw => ?_)
      refine lv_aload_n fx.1 fx.2.1 dX2_readAtom_99 rfl (lv_at hl 0 rfl) ?_
      refine g_getr fx hw h0 lf_RX2_9 rfl dX2_readAtom_100 hok (fun a32 h_a32 hok => ?_)
      refine lv_bipush (v := 41) fx.1 fx.2.1 dX2_readAtom_103 (by decide) ?_
      obtain ⟨G33, hf, hok⟩ := gOk_bind hok
      refine g_callV0 (κ := 7) fx hw (c_X7_needSign l X τ n a32 (41 : Int32) G31 h_a32 hf) lv_RX2_95 ⟨rfl, rfl⟩ rfl rfl h_a32 rfl hl.1 rfl ⟨by simp only [rm_r_X2, rm_X7_needSign]; omega, by simp only [rm_r_X2, rm_X7_needSign]; omega⟩ (Nat.le_of_ble_eq_true rfl) ⟨Nat.zero_le _, Nat.zero_le _⟩ dX2_readAtom_105 (fun H locs hw => ?_)
      refine lv_goto (tgt := 215) fx.1 fx.2.1 dX2_readAtom_108 (by decide) ?_
      cases gOk_some hok
      exact g_vret fx hw hr dX2_readAtom_215
  · refine lv_aload_n fx.1 fx.2.1 dX2_readAtom_67 rfl (lv_at hl 0 rfl) ?_
    refine lv_iload_n fx.1 fx.2.1 dX2_readAtom_68 rfl (lv_at hl 1 rfl) ?_
    refine lv_iconst (v := 1) fx.1 fx.2.1 dX2_readAtom_69 (by decide) ?_
    refine lv_iadd fx.1 fx.2.1 dX2_readAtom_70 ?_
    obtain ⟨G34, hf, hok⟩ := gOk_bind hok
    refine g_callV0 (κ := 2) fx hw (hF1 x0 (x1 + (1 : Int32)) G G34 h0 hf) lv_RX2_74 ⟨rfl, rfl⟩ rfl rfl h0 rfl hl.1 rfl ⟨by simp only [rm_r_X2]; omega, by simp only [rm_r_X2]; omega⟩ (Nat.le_of_ble_eq_true rfl) ⟨Nat.zero_le _, Nat.zero_le _⟩ dX2_readAtom_71 (fun H locs hw => ?_)
    refine lv_aload_n fx.1 fx.2.1 dX2_readAtom_74 rfl (lv_at hl 0 rfl) ?_
    refine g_getr fx hw h0 lf_RX2_15 rfl dX2_readAtom_75 hok (fun a35 h_a35 hok => ?_)
    refine lv_sipush (v := 2000) fx.1 fx.2.1 dX2_readAtom_78 (by decide) ?_
    obtain ⟨G36, hf, hok⟩ := gOk_bind hok
    refine g_callV0 (κ := 1) fx hw (c_X1_emit l X τ a35 (2000 : Int32) G34 h_a35 hf) lv_RX2_79 ⟨rfl, rfl⟩ rfl rfl h_a35 rfl hl.1 rfl ⟨by simp only [rm_r_X2, rm_X1_emit]; omega, by simp only [rm_r_X2, rm_X1_emit]; omega⟩ (Nat.le_of_ble_eq_true rfl) ⟨Nat.zero_le _, Nat.zero_le _⟩ dX2_readAtom_81 (fun H locs hw => ?_)
    refine lv_goto (tgt := 215) fx.1 fx.2.1 dX2_readAtom_84 (by decide) ?_
    cases gOk_some hok
    exact g_vret fx hw hr dX2_readAtom_215
set_option maxHeartbeats 4000000 in
set_option maxRecDepth 100000 in
theorem w_X2_readAtom_39 {X : gX} {τ : gτ} {p : Program} {l : Launch} {e : Env} {s : State} {m : MethodId} {args : Array Value} {below : List Frame} {meth : Method} {c : Code} (fx : gFx X p s m args meth c cX2_readAtom 6 RX2) (hS : gS0 l X) (F : Nat → Nat → Int32 → gG → Option gG) (d : Nat) (hF0 : ∀ (x0 : Nat) (x1 : Int32) (G : gG) (G' : gG), gK τ x0 2 → F 0 x0 x1 G = some G' → gM l X τ yX2_readCondition cX2_readCondition 4 none (rm_r_X2 d) [.ref x0, .int x1] G none G') (hF1 : ∀ (x0 : Nat) (x1 : Int32) (G : gG) (G' : gG), gK τ x0 2 → F 1 x0 x1 G = some G' → gM l X τ yX2_readAtom cX2_readAtom 6 none (rm_r_X2 d) [.ref x0, .int x1] G none G')  (n : Nat) (x0 : Nat) (x1 : Int32) (x2 : Int32) (x3 : Int32) (s0 : Int32) (h0 : gK τ x0 2)  (hr : meth.sig.returnType = none) {G' : gG} {G : gG} {H : Heap} {locs : List Loc} {ls : Array Slot} (hw : gHw X τ G H locs) (hl : lv_has ls 6 [(0, .ref x0), (1, .int x1), (2, .int x2), (3, .int x3)]) (hok : gOk (k_X2_readAtom_39 τ n F x0 x1 x2 x3 s0 G) (fun q => q = G'))  : W p l e (rm_r_X2 (d + 1)) s m args below meth c H locs 0 0 (MQ below (gQ X τ none G') args s 0 0 (gFree X)) (F0 m 39 ls [.int s0]) := by
  unfold k_X2_readAtom_39 at hok
  refine lv_istore (lv' := [(4, .int s0), (0, .ref x0), (1, .int x1), (2, .int x2), (3, .int x3)]) fx.1 fx.2.1 dX2_readAtom_39 hl (by decide) rfl (fun ls hl => ?_)
  refine lv_iload fx.1 fx.2.1 dX2_readAtom_41 (lv_at hl 0 rfl) ?_
  refine g_if_eq (tgt := 63) fx dX2_readAtom_43 (by decide) hok (fun hok => ?_) (fun hok => ?_)
  · exact w_X2_readAtom_63 fx hS F d hF0 hF1 n x0 x1 x3 s0  h0  hr hw (lv_sub hl [1, 2, 4, 0] rfl) hok
  · refine lv_iload_n fx.1 fx.2.1 dX2_readAtom_46 rfl (lv_at hl 2 rfl) ?_
    refine lv_bipush (v := 6) fx.1 fx.2.1 dX2_readAtom_47 (by decide) ?_
    refine g_icmp_lt (tgt := 63) fx dX2_readAtom_49 (by decide) hok (fun hok => ?_) (fun hok => ?_)
    · exact w_X2_readAtom_63 fx hS F d hF0 hF1 n x0 x1 x3 s0  h0  hr hw (lv_sub hl [1, 2, 4, 0] rfl) hok
    · refine lv_aload_n fx.1 fx.2.1 dX2_readAtom_52 rfl (lv_at hl 1 rfl) ?_
      refine g_getr fx hw h0 lf_RX2_9 rfl dX2_readAtom_53 hok (fun a37 h_a37 hok => ?_)
      refine lv_iload_n fx.1 fx.2.1 dX2_readAtom_56 rfl (lv_at hl 3 rfl) ?_
      obtain ⟨G38, hf, hok⟩ := gOk_bind hok
      refine g_callV0 (κ := 7) fx hw (c_X7_refuseAt l X τ a37 x2 G h_a37 hf) lv_RX2_92 ⟨rfl, rfl⟩ rfl rfl h_a37 rfl hl.1 rfl ⟨by simp only [rm_r_X2, rm_X7_refuseAt]; omega, by simp only [rm_r_X2, rm_X7_refuseAt]; omega⟩ (Nat.le_of_ble_eq_true rfl) ⟨Nat.zero_le _, Nat.zero_le _⟩ dX2_readAtom_57 (fun H locs hw => ?_)
      refine lv_goto (tgt := 215) fx.1 fx.2.1 dX2_readAtom_60 (by decide) ?_
      cases gOk_some hok
      exact g_vret fx hw hr dX2_readAtom_215
set_option maxHeartbeats 4000000 in
set_option maxRecDepth 100000 in
theorem w_X2_readAtom_34 {X : gX} {τ : gτ} {p : Program} {l : Launch} {e : Env} {s : State} {m : MethodId} {args : Array Value} {below : List Frame} {meth : Method} {c : Code} (fx : gFx X p s m args meth c cX2_readAtom 6 RX2) (hS : gS0 l X) (F : Nat → Nat → Int32 → gG → Option gG) (d : Nat) (hF0 : ∀ (x0 : Nat) (x1 : Int32) (G : gG) (G' : gG), gK τ x0 2 → F 0 x0 x1 G = some G' → gM l X τ yX2_readCondition cX2_readCondition 4 none (rm_r_X2 d) [.ref x0, .int x1] G none G') (hF1 : ∀ (x0 : Nat) (x1 : Int32) (G : gG) (G' : gG), gK τ x0 2 → F 1 x0 x1 G = some G' → gM l X τ yX2_readAtom cX2_readAtom 6 none (rm_r_X2 d) [.ref x0, .int x1] G none G')  (n : Nat) (x0 : Nat) (x1 : Int32) (x2 : Int32) (x3 : Int32)  (h0 : gK τ x0 2)  (hr : meth.sig.returnType = none) {G' : gG} {G : gG} {H : Heap} {locs : List Loc} {ls : Array Slot} (hw : gHw X τ G H locs) (hl : lv_has ls 6 [(0, .ref x0), (1, .int x1), (2, .int x2), (3, .int x3)]) (hok : gOk (k_X2_readAtom_34 τ n F x0 x1 x2 x3  G) (fun q => q = G'))  : W p l e (rm_r_X2 (d + 1)) s m args below meth c H locs 0 0 (MQ below (gQ X τ none G') args s 0 0 (gFree X)) (F0 m 34 ls []) := by
  unfold k_X2_readAtom_34 at hok
  refine lv_iconst (v := 1) fx.1 fx.2.1 dX2_readAtom_34 (by decide) ?_
  refine lv_goto (tgt := 39) fx.1 fx.2.1 dX2_readAtom_35 (by decide) ?_
  exact w_X2_readAtom_39 fx hS F d hF0 hF1 n x0 x1 x2 x3 (1 : Int32) h0  hr hw (lv_sub hl [0, 1, 2, 3] rfl) hok
set_option maxHeartbeats 4000000 in
set_option maxRecDepth 100000 in
theorem ce_X2_readAtom (l : Launch) (X : gX) (τ : gτ) (n : Nat) (hS : gS0 l X) (F : Nat → Nat → Int32 → gG → Option gG) (d : Nat) (hF0 : ∀ (x0 : Nat) (x1 : Int32) (G : gG) (G' : gG), gK τ x0 2 → F 0 x0 x1 G = some G' → gM l X τ yX2_readCondition cX2_readCondition 4 none (rm_r_X2 d) [.ref x0, .int x1] G none G') (hF1 : ∀ (x0 : Nat) (x1 : Int32) (G : gG) (G' : gG), gK τ x0 2 → F 1 x0 x1 G = some G' → gM l X τ yX2_readAtom cX2_readAtom 6 none (rm_r_X2 d) [.ref x0, .int x1] G none G')  (x0 : Nat) (x1 : Int32) (G : gG) (h0 : gK τ x0 2) {G' : gG} (h : e_X2_readAtom τ n F x0 x1 G = some G') : gM l X τ yX2_readAtom cX2_readAtom 6 none (rm_r_X2 (d + 1)) [.ref x0, .int x1] G none G' := by
  refine g_body (by decide +kernel) (Nat.le_of_ble_eq_true rfl) ?_
  intro p e s m args below meth c ls fx hr hw hl
  have fx : gFx X p s m args meth c cX2_readAtom 6 RX2 := fx
  have hl : lv_has ls 6 [(0, .ref x0), (1, .int x1)] := hl
  have hok : gOk (e_X2_readAtom τ n F x0 x1 G) (fun q => q = G') := ⟨_, h, rfl⟩
  unfold e_X2_readAtom at hok
  show W p l e (rm_r_X2 (d + 1)) s m args below meth c s.heap [] 0 0 (MQ below (gQ X τ none G') args s 0 0 (gFree X)) _
  refine lv_aload_n fx.1 fx.2.1 dX2_readAtom_0 rfl (lv_at hl 0 rfl) ?_
  refine g_getr fx hw h0 lf_RX2_9 rfl dX2_readAtom_1 hok (fun a1 h_a1 hok => ?_)
  refine g_geti fx hw h_a1 lf_RX2_82 rfl dX2_readAtom_4 ?_
  refine g_leti hok (fun v2 hok => ?_)
  refine lv_istore_n (lv' := [(2, .int v2), (0, .ref x0), (1, .int x1)]) fx.1 fx.2.1 dX2_readAtom_7 rfl hl (by decide) rfl (fun ls hl => ?_)
  refine lv_aload_n fx.1 fx.2.1 dX2_readAtom_8 rfl (lv_at hl 1 rfl) ?_
  refine g_getr fx hw h0 lf_RX2_9 rfl dX2_readAtom_9 hok (fun a3 h_a3 hok => ?_)
  refine g_ldcS fx hS gt_RX2_86 dX2_readAtom_12 (fun w4 h_w4 => ?_)
  obtain ⟨v5, G6, hf, hok⟩ := gOk_bind2 hok
  refine g_callV0 (κ := 7) fx hw (c_X7_takeWord l X τ n hS a3 s_not G h_a3 h_w4 hf) lv_RX2_33 ⟨rfl, rfl⟩ rfl rfl h_a3 rfl hl.1 rfl ⟨by simp only [rm_r_X2, rm_X7_takeWord]; omega, by simp only [rm_r_X2, rm_X7_takeWord]; omega⟩ (Nat.le_of_ble_eq_true rfl) ⟨Nat.zero_le _, Nat.zero_le _⟩ dX2_readAtom_14 (fun H locs hw => ?_)
  refine lv_istore_n (lv' := [(3, .int v5), (2, .int v2), (0, .ref x0), (1, .int x1)]) fx.1 fx.2.1 dX2_readAtom_17 rfl hl (by decide) rfl (fun ls hl => ?_)
  refine lv_iload_n fx.1 fx.2.1 dX2_readAtom_18 rfl (lv_at hl 0 rfl) ?_
  refine g_if_ne (tgt := 34) fx dX2_readAtom_19 (by decide) hok (fun hok => ?_) (fun hok => ?_)
  · refine lv_aload_n fx.1 fx.2.1 dX2_readAtom_22 rfl (lv_at hl 2 rfl) ?_
    refine g_getr fx hw h0 lf_RX2_9 rfl dX2_readAtom_23 hok (fun a7 h_a7 hok => ?_)
    refine lv_bipush (v := 40) fx.1 fx.2.1 dX2_readAtom_26 (by decide) ?_
    obtain ⟨v8, G9, hf, hok⟩ := gOk_bind2 hok
    refine g_callV0 (κ := 7) fx hw (c_X7_takeSign l X τ n a7 (40 : Int32) G6 h_a7 hf) lv_RX2_88 ⟨rfl, rfl⟩ rfl rfl h_a7 rfl hl.1 rfl ⟨by simp only [rm_r_X2, rm_X7_takeSign]; omega, by simp only [rm_r_X2, rm_X7_takeSign]; omega⟩ (Nat.le_of_ble_eq_true rfl) ⟨Nat.zero_le _, Nat.zero_le _⟩ dX2_readAtom_28 (fun H locs hw => ?_)
    refine g_if_eq (tgt := 38) fx dX2_readAtom_31 (by decide) hok (fun hok => ?_) (fun hok => ?_)
    · refine lv_iconst (v := 0) fx.1 fx.2.1 dX2_readAtom_38 (by decide) ?_
      exact w_X2_readAtom_39 fx hS F d hF0 hF1 n x0 x1 v2 v5 (0 : Int32) h0  hr hw (lv_sub hl [2, 3, 1, 0] rfl) hok
    · exact w_X2_readAtom_34 fx hS F d hF0 hF1 n x0 x1 v2 v5  h0  hr hw (lv_sub hl [2, 3, 1, 0] rfl) hok
  · exact w_X2_readAtom_34 fx hS F d hF0 hF1 n x0 x1 v2 v5  h0  hr hw (lv_sub hl [2, 3, 1, 0] rfl) hok
theorem dX2_readCondition_0 : decode cX2_readCondition 0 = .ok (.iconst 0, 1) := by decide +kernel
theorem dX2_readCondition_1 : decode cX2_readCondition 1 = .ok (.istore_n 2, 1) := by decide +kernel
theorem dX2_readCondition_2 : decode cX2_readCondition 2 = .ok (.iload_n 2, 1) := by decide +kernel
theorem dX2_readCondition_3 : decode cX2_readCondition 3 = .ok (.sipush 400, 3) := by decide +kernel
theorem dX2_readCondition_6 : decode cX2_readCondition 6 = .ok (.if_icmp .ge 86, 3) := by decide +kernel
theorem dX2_readCondition_9 : decode cX2_readCondition 9 = .ok (.iload_n 2, 1) := by decide +kernel
theorem dX2_readCondition_10 : decode cX2_readCondition 10 = .ok (.ifCond .eq 15, 3) := by decide +kernel
theorem dX2_readCondition_13 : decode cX2_readCondition 13 = .ok (.aload_n 0, 1) := by decide +kernel
theorem dX2_readCondition_14 : decode cX2_readCondition 14 = .ok (.getfield 9, 3) := by decide +kernel
theorem dX2_readCondition_17 : decode cX2_readCondition 17 = .ok (.ldc 72, 2) := by decide +kernel
theorem dX2_readCondition_19 : decode cX2_readCondition 19 = .ok (.invokevirtual 33, 3) := by decide +kernel
theorem dX2_readCondition_22 : decode cX2_readCondition 22 = .ok (.ifCond .eq 70, 3) := by decide +kernel
theorem dX2_readCondition_25 : decode cX2_readCondition 25 = .ok (.aload_n 0, 1) := by decide +kernel
theorem dX2_readCondition_26 : decode cX2_readCondition 26 = .ok (.iload_n 1, 1) := by decide +kernel
theorem dX2_readCondition_27 : decode cX2_readCondition 27 = .ok (.invokevirtual 74, 3) := by decide +kernel
theorem dX2_readCondition_30 : decode cX2_readCondition 30 = .ok (.iconst 0, 1) := by decide +kernel
theorem dX2_readCondition_31 : decode cX2_readCondition 31 = .ok (.istore_n 3, 1) := by decide +kernel
theorem dX2_readCondition_32 : decode cX2_readCondition 32 = .ok (.iload_n 3, 1) := by decide +kernel
theorem dX2_readCondition_33 : decode cX2_readCondition 33 = .ok (.sipush 400, 3) := by decide +kernel
theorem dX2_readCondition_36 : decode cX2_readCondition 36 = .ok (.if_icmp .ge 36, 3) := by decide +kernel
theorem dX2_readCondition_39 : decode cX2_readCondition 39 = .ok (.aload_n 0, 1) := by decide +kernel
theorem dX2_readCondition_40 : decode cX2_readCondition 40 = .ok (.getfield 9, 3) := by decide +kernel
theorem dX2_readCondition_43 : decode cX2_readCondition 43 = .ok (.ldc 77, 2) := by decide +kernel
theorem dX2_readCondition_45 : decode cX2_readCondition 45 = .ok (.invokevirtual 33, 3) := by decide +kernel
theorem dX2_readCondition_48 : decode cX2_readCondition 48 = .ok (.ifCond .eq 24, 3) := by decide +kernel
theorem dX2_readCondition_51 : decode cX2_readCondition 51 = .ok (.aload_n 0, 1) := by decide +kernel
theorem dX2_readCondition_52 : decode cX2_readCondition 52 = .ok (.iload_n 1, 1) := by decide +kernel
theorem dX2_readCondition_53 : decode cX2_readCondition 53 = .ok (.invokevirtual 74, 3) := by decide +kernel
theorem dX2_readCondition_56 : decode cX2_readCondition 56 = .ok (.aload_n 0, 1) := by decide +kernel
theorem dX2_readCondition_57 : decode cX2_readCondition 57 = .ok (.getfield 15, 3) := by decide +kernel
theorem dX2_readCondition_60 : decode cX2_readCondition 60 = .ok (.sipush 2001, 3) := by decide +kernel
theorem dX2_readCondition_63 : decode cX2_readCondition 63 = .ok (.invokevirtual 79, 3) := by decide +kernel
theorem dX2_readCondition_66 : decode cX2_readCondition 66 = .ok (.iinc 3 1, 3) := by decide +kernel
theorem dX2_readCondition_69 : decode cX2_readCondition 69 = .ok (.goto (-37), 3) := by decide +kernel
theorem dX2_readCondition_72 : decode cX2_readCondition 72 = .ok (.iload_n 2, 1) := by decide +kernel
theorem dX2_readCondition_73 : decode cX2_readCondition 73 = .ok (.ifCond .le 13, 3) := by decide +kernel
theorem dX2_readCondition_76 : decode cX2_readCondition 76 = .ok (.aload_n 0, 1) := by decide +kernel
theorem dX2_readCondition_77 : decode cX2_readCondition 77 = .ok (.getfield 15, 3) := by decide +kernel
theorem dX2_readCondition_80 : decode cX2_readCondition 80 = .ok (.sipush 2002, 3) := by decide +kernel
theorem dX2_readCondition_83 : decode cX2_readCondition 83 = .ok (.invokevirtual 79, 3) := by decide +kernel
theorem dX2_readCondition_86 : decode cX2_readCondition 86 = .ok (.iinc 2 1, 3) := by decide +kernel
theorem dX2_readCondition_89 : decode cX2_readCondition 89 = .ok (.goto (-87), 3) := by decide +kernel
theorem dX2_readCondition_92 : decode cX2_readCondition 92 = .ok (.return_, 1) := by decide +kernel
def b_X2_readCondition_32 (τ : gτ) (n : Nat) (F : Nat → Nat → Int32 → gG → Option gG) (x0 : Nat) (x1 : Int32) (x2 : Int32) (x3 : Int32) (G : gG) : Option ((Int32 × gG) ⊕ ((gG))) :=
  if (400 : Int32) ≤ x3 then (some (.inr G))
  else ((gr G 2 0 x0).bind fun a2 =>
  gBind2 (f_X7_takeWord τ n a2 s_and G) fun v4 G5 =>
  if v4 = 0 then (some (.inr G5))
  else ((F 1 x0 x1 G5).bind fun G6 =>
  (gr G6 2 1 x0).bind fun a7 =>
  (f_X1_emit τ a7 (2001 : Int32) G6).bind fun G8 =>
  gLet (x3 + 1) fun v9 =>
  some (.inl (v9, G8))))
def l_X2_readCondition_32 (τ : gτ) (n : Nat) (F : Nat → Nat → Int32 → gG → Option gG) (x0 : Nat) (x1 : Int32) (x2 : Int32) (x3 : Int32) (G : gG) : Option ((gG)) :=
  gIter (fun (q : Int32 × gG) => b_X2_readCondition_32 τ n F x0 x1 x2 q.1 q.2) n (x3, G)
def k_X2_readCondition_72 (τ : gτ) (n : Nat) (F : Nat → Nat → Int32 → gG → Option gG) (x0 : Nat) (x1 : Int32) (x2 : Int32)  (G : gG) : Option ((Int32 × gG) ⊕ ((gG))) :=
  if x2 ≤ 0 then (gLet (x2 + 1) fun v11 =>
  some (.inl (v11, G)))
  else ((gr G 2 1 x0).bind fun a12 =>
  (f_X1_emit τ a12 (2002 : Int32) G).bind fun G13 =>
  gLet (x2 + 1) fun v14 =>
  some (.inl (v14, G13)))
def k_X2_readCondition_25 (τ : gτ) (n : Nat) (F : Nat → Nat → Int32 → gG → Option gG) (x0 : Nat) (x1 : Int32) (x2 : Int32)  (G : gG) : Option ((Int32 × gG) ⊕ ((gG))) :=
  (F 1 x0 x1 G).bind fun G1 =>
  (l_X2_readCondition_32 τ n F x0 x1 x2 (0 : Int32) G1).bind fun q => gLet q fun G10 => 
  k_X2_readCondition_72 τ n F x0 x1 x2  G10
def b_X2_readCondition_2 (τ : gτ) (n : Nat) (F : Nat → Nat → Int32 → gG → Option gG) (x0 : Nat) (x1 : Int32) (x2 : Int32) (G : gG) : Option ((Int32 × gG) ⊕ ((gG))) :=
  if (400 : Int32) ≤ x2 then (some (.inr G))
  else (if x2 = 0 then (k_X2_readCondition_25 τ n F x0 x1 x2  G)
  else ((gr G 2 0 x0).bind fun a15 =>
  gBind2 (f_X7_takeWord τ n a15 s_or G) fun v17 G18 =>
  if v17 = 0 then (some (.inr G18))
  else (k_X2_readCondition_25 τ n F x0 x1 x2  G18)))
def l_X2_readCondition_2 (τ : gτ) (n : Nat) (F : Nat → Nat → Int32 → gG → Option gG) (x0 : Nat) (x1 : Int32) (x2 : Int32) (G : gG) : Option ((gG)) :=
  gIter (fun (q : Int32 × gG) => b_X2_readCondition_2 τ n F x0 x1 q.1 q.2) n (x2, G)
def e_X2_readCondition (τ : gτ) (n : Nat) (F : Nat → Nat → Int32 → gG → Option gG) (x0 : Nat) (x1 : Int32) (G : gG) : Option (gG) :=
  (l_X2_readCondition_2 τ n F x0 x1 (0 : Int32) G).bind fun q => gLet q fun G19 => 
  some G19
set_option maxHeartbeats 4000000 in
set_option maxRecDepth 100000 in
theorem w_b_X2_readCondition_32 {X : gX} {τ : gτ} {p : Program} {l : Launch} {e : Env} {s : State} {m : MethodId} {args : Array Value} {below : List Frame} {meth : Method} {c : Code} (fx : gFx X p s m args meth c cX2_readCondition 4 RX2) (hS : gS0 l X) (F : Nat → Nat → Int32 → gG → Option gG) (d : Nat) (hF0 : ∀ (x0 : Nat) (x1 : Int32) (G : gG) (G' : gG), gK τ x0 2 → F 0 x0 x1 G = some G' → gM l X τ yX2_readCondition cX2_readCondition 4 none (rm_r_X2 d) [.ref x0, .int x1] G none G') (hF1 : ∀ (x0 : Nat) (x1 : Int32) (G : gG) (G' : gG), gK τ x0 2 → F 1 x0 x1 G = some G' → gM l X τ yX2_readAtom cX2_readAtom 6 none (rm_r_X2 d) [.ref x0, .int x1] G none G')  (n : Nat) (x0 : Nat) (x1 : Int32) (x2 : Int32) (x3 : Int32) (h0 : gK τ x0 2) {Q : State → Prop} {K : ((Int32 × gG) ⊕ ((gG))) → Prop} {G : gG} {H : Heap} {locs : List Loc} {ls : Array Slot} (hw : gHw X τ G H locs) (hl : lv_has ls 4 [(0, .ref x0), (1, .int x1), (2, .int x2), (3, .int x3)]) (hok : gOk (b_X2_readCondition_32 τ n F x0 x1 x2 x3 G) K) (hc : ∀ (y3 : Int32) (G : gG) (H : Heap) (locs : List Loc) (ls : Array Slot), gHw X τ G H locs → lv_has ls 4 [(0, .ref x0), (1, .int x1), (2, .int x2), (3, .int y3)] → K (.inl (y3, G)) → W p l e (rm_r_X2 (d + 1)) s m args below meth c H locs 0 0 Q (F0 m 32 ls [])) (hx0 : ∀ (G : gG) (H : Heap) (locs : List Loc) (ls : Array Slot), gHw X τ G H locs → lv_has ls 4 [(0, .ref x0), (1, .int x1), (2, .int x2)] → K (.inr G) → W p l e (rm_r_X2 (d + 1)) s m args below meth c H locs 0 0 Q (F0 m 72 ls [])) : W p l e (rm_r_X2 (d + 1)) s m args below meth c H locs 0 0 Q (F0 m 32 ls []) := by
  unfold b_X2_readCondition_32 at hok
  refine lv_iload_n fx.1 fx.2.1 dX2_readCondition_32 rfl (lv_at hl 3 rfl) ?_
  refine lv_sipush (v := 400) fx.1 fx.2.1 dX2_readCondition_33 (by decide) ?_
  refine g_icmp_ge (tgt := 72) fx dX2_readCondition_36 (by decide) hok (fun hok => ?_) (fun hok => ?_)
  · exact hx0  G _ _ _  hw (lv_sub hl [0, 1, 2] rfl) (gOk_some hok)
  · refine lv_aload_n fx.1 fx.2.1 dX2_readCondition_39 rfl (lv_at hl 0 rfl) ?_
    refine g_getr fx hw h0 lf_RX2_9 rfl dX2_readCondition_40 hok (fun a2 h_a2 hok => ?_)
    refine g_ldcS fx hS gt_RX2_77 dX2_readCondition_43 (fun w3 h_w3 => ?_)
    obtain ⟨v4, G5, hf, hok⟩ := gOk_bind2 hok
    refine g_callV0 (κ := 7) fx hw (c_X7_takeWord l X τ n hS a2 s_and G h_a2 h_w3 hf) lv_RX2_33 ⟨rfl, rfl⟩ rfl rfl h_a2 rfl hl.1 rfl ⟨by simp only [rm_r_X2, rm_X7_takeWord]; omega, by simp only [rm_r_X2, rm_X7_takeWord]; omega⟩ (Nat.le_of_ble_eq_true rfl) ⟨Nat.zero_le _, Nat.zero_le _⟩ dX2_readCondition_45 (fun H locs hw => ?_)
    refine g_if_eq (tgt := 72) fx dX2_readCondition_48 (by decide) hok (fun hok => ?_) (fun hok => ?_)
    · exact hx0  G5 _ _ _  hw (lv_sub hl [0, 1, 2] rfl) (gOk_some hok)
    · refine lv_aload_n fx.1 fx.2.1 dX2_readCondition_51 rfl (lv_at hl 0 rfl) ?_
      refine lv_iload_n fx.1 fx.2.1 dX2_readCondition_52 rfl (lv_at hl 1 rfl) ?_
      obtain ⟨G6, hf, hok⟩ := gOk_bind hok
      refine g_callV0 (κ := 2) fx hw (hF1 x0 x1 G5 G6 h0 hf) lv_RX2_74 ⟨rfl, rfl⟩ rfl rfl h0 rfl hl.1 rfl ⟨by simp only [rm_r_X2]; omega, by simp only [rm_r_X2]; omega⟩ (Nat.le_of_ble_eq_true rfl) ⟨Nat.zero_le _, Nat.zero_le _⟩ dX2_readCondition_53 (fun H locs hw => ?_)
      refine lv_aload_n fx.1 fx.2.1 dX2_readCondition_56 rfl (lv_at hl 0 rfl) ?_
      refine g_getr fx hw h0 lf_RX2_15 rfl dX2_readCondition_57 hok (fun a7 h_a7 hok => ?_)
      refine lv_sipush (v := 2001) fx.1 fx.2.1 dX2_readCondition_60 (by decide) ?_
      obtain ⟨G8, hf, hok⟩ := gOk_bind hok
      refine g_callV0 (κ := 1) fx hw (c_X1_emit l X τ a7 (2001 : Int32) G6 h_a7 hf) lv_RX2_79 ⟨rfl, rfl⟩ rfl rfl h_a7 rfl hl.1 rfl ⟨by simp only [rm_r_X2, rm_X1_emit]; omega, by simp only [rm_r_X2, rm_X1_emit]; omega⟩ (Nat.le_of_ble_eq_true rfl) ⟨Nat.zero_le _, Nat.zero_le _⟩ dX2_readCondition_63 (fun H locs hw => ?_)
      obtain ⟨v9, e_v9, hok⟩ := gOk_let hok
      refine lv_iinc (v := v9) (lv' := [(3, .int v9), (0, .ref x0), (1, .int x1), (2, .int x2)]) fx.1 fx.2.1 dX2_readCondition_66 hl (k := 3) rfl (by rw [e_v9]; rfl) (by decide) rfl (fun ls hl => ?_)
      refine lv_goto (tgt := 32) fx.1 fx.2.1 dX2_readCondition_69 (by decide) ?_
      exact hc v9 G8 _ _ _  hw (lv_sub hl [1, 2, 3, 0] rfl) (gOk_some hok)
theorem w_l_X2_readCondition_32 {X : gX} {τ : gτ} {p : Program} {l : Launch} {e : Env} {s : State} {m : MethodId} {args : Array Value} {below : List Frame} {meth : Method} {c : Code} (fx : gFx X p s m args meth c cX2_readCondition 4 RX2) (hS : gS0 l X) (F : Nat → Nat → Int32 → gG → Option gG) (d : Nat) (hF0 : ∀ (x0 : Nat) (x1 : Int32) (G : gG) (G' : gG), gK τ x0 2 → F 0 x0 x1 G = some G' → gM l X τ yX2_readCondition cX2_readCondition 4 none (rm_r_X2 d) [.ref x0, .int x1] G none G') (hF1 : ∀ (x0 : Nat) (x1 : Int32) (G : gG) (G' : gG), gK τ x0 2 → F 1 x0 x1 G = some G' → gM l X τ yX2_readAtom cX2_readAtom 6 none (rm_r_X2 d) [.ref x0, .int x1] G none G')  (n : Nat) (x0 : Nat) (x1 : Int32) (x2 : Int32) (h0 : gK τ x0 2) {Q : State → Prop} {K : ((gG)) → Prop} (hx0 : ∀ (G : gG) (H : Heap) (locs : List Loc) (ls : Array Slot), gHw X τ G H locs → lv_has ls 4 [(0, .ref x0), (1, .int x1), (2, .int x2)] → K G → W p l e (rm_r_X2 (d + 1)) s m args below meth c H locs 0 0 Q (F0 m 72 ls [])) : ∀ (k : Nat) (x3 : Int32) (G : gG) (H : Heap) (locs : List Loc) (ls : Array Slot), gHw X τ G H locs → lv_has ls 4 [(0, .ref x0), (1, .int x1), (2, .int x2), (3, .int x3)] → gOk (gIter (fun (q : Int32 × gG) => b_X2_readCondition_32 τ n F x0 x1 x2 q.1 q.2) k (x3, G)) K → W p l e (rm_r_X2 (d + 1)) s m args below meth c H locs 0 0 Q (F0 m 32 ls []) := by
  intro k
  induction k with
  | zero =>
    intro x3 G H locs ls hw hl hok
    exact gOk_iter0 hok
  | succ k hc =>
    intro x3 G H locs ls hw hl hok
    exact w_b_X2_readCondition_32 fx hS F d hF0 hF1 n x0 x1 x2 x3 h0 hw hl (gOk_iter hok) hc hx0
set_option maxHeartbeats 4000000 in
set_option maxRecDepth 100000 in
theorem w_X2_readCondition_72 {X : gX} {τ : gτ} {p : Program} {l : Launch} {e : Env} {s : State} {m : MethodId} {args : Array Value} {below : List Frame} {meth : Method} {c : Code} (fx : gFx X p s m args meth c cX2_readCondition 4 RX2) (hS : gS0 l X) (F : Nat → Nat → Int32 → gG → Option gG) (d : Nat) (hF0 : ∀ (x0 : Nat) (x1 : Int32) (G : gG) (G' : gG), gK τ x0 2 → F 0 x0 x1 G = some G' → gM l X τ yX2_readCondition cX2_readCondition 4 none (rm_r_X2 d) [.ref x0, .int x1] G none G') (hF1 : ∀ (x0 : Nat) (x1 : Int32) (G : gG) (G' : gG), gK τ x0 2 → F 1 x0 x1 G = some G' → gM l X τ yX2_readAtom cX2_readAtom 6 none (rm_r_X2 d) [.ref x0, .int x1] G none G')  (n : Nat) (x0 : Nat) (x1 : Int32) (x2 : Int32)  (h0 : gK τ x0 2)  {Q : State → Prop} {K : ((Int32 × gG) ⊕ ((gG))) → Prop} {G : gG} {H : Heap} {locs : List Loc} {ls : Array Slot} (hw : gHw X τ G H locs) (hl : lv_has ls 4 [(0, .ref x0), (1, .int x1), (2, .int x2)]) (hok : gOk (k_X2_readCondition_72 τ n F x0 x1 x2  G) K) (hc : ∀ (y2 : Int32) (G : gG) (H : Heap) (locs : List Loc) (ls : Array Slot), gHw X τ G H locs → lv_has ls 4 [(0, .ref x0), (1, .int x1), (2, .int y2)] → K (.inl (y2, G)) → W p l e (rm_r_X2 (d + 1)) s m args below meth c H locs 0 0 Q (F0 m 2 ls [])) (hx0 : ∀ (G : gG) (H : Heap) (locs : List Loc) (ls : Array Slot), gHw X τ G H locs → lv_has ls 4 [] → K (.inr G) → W p l e (rm_r_X2 (d + 1)) s m args below meth c H locs 0 0 Q (F0 m 92 ls [])) : W p l e (rm_r_X2 (d + 1)) s m args below meth c H locs 0 0 Q (F0 m 72 ls []) := by
  unfold k_X2_readCondition_72 at hok
  refine lv_iload_n fx.1 fx.2.1 dX2_readCondition_72 rfl (lv_at hl 2 rfl) ?_
  refine g_if_le (tgt := 86) fx dX2_readCondition_73 (by decide) hok (fun hok => ?_) (fun hok => ?_)
  · obtain ⟨v11, e_v11, hok⟩ := gOk_let hok
    refine lv_iinc (v := v11) (lv' := [(2, .int v11), (0, .ref x0), (1, .int x1)]) fx.1 fx.2.1 dX2_readCondition_86 hl (k := 2) rfl (by rw [e_v11]; rfl) (by decide) rfl (fun ls hl => ?_)
    refine lv_goto (tgt := 2) fx.1 fx.2.1 dX2_readCondition_89 (by decide) ?_
    exact hc v11 G _ _ _  hw (lv_sub hl [1, 2, 0] rfl) (gOk_some hok)
  · refine lv_aload_n fx.1 fx.2.1 dX2_readCondition_76 rfl (lv_at hl 0 rfl) ?_
    refine g_getr fx hw h0 lf_RX2_15 rfl dX2_readCondition_77 hok (fun a12 h_a12 hok => ?_)
    refine lv_sipush (v := 2002) fx.1 fx.2.1 dX2_readCondition_80 (by decide) ?_
    obtain ⟨G13, hf, hok⟩ := gOk_bind hok
    refine g_callV0 (κ := 1) fx hw (c_X1_emit l X τ a12 (2002 : Int32) G h_a12 hf) lv_RX2_79 ⟨rfl, rfl⟩ rfl rfl h_a12 rfl hl.1 rfl ⟨by simp only [rm_r_X2, rm_X1_emit]; omega, by simp only [rm_r_X2, rm_X1_emit]; omega⟩ (Nat.le_of_ble_eq_true rfl) ⟨Nat.zero_le _, Nat.zero_le _⟩ dX2_readCondition_83 (fun H locs hw => ?_)
    obtain ⟨v14, e_v14, hok⟩ := gOk_let hok
    refine lv_iinc (v := v14) (lv' := [(2, .int v14), (0, .ref x0), (1, .int x1)]) fx.1 fx.2.1 dX2_readCondition_86 hl (k := 2) rfl (by rw [e_v14]; rfl) (by decide) rfl (fun ls hl => ?_)
    refine lv_goto (tgt := 2) fx.1 fx.2.1 dX2_readCondition_89 (by decide) ?_
    exact hc v14 G13 _ _ _  hw (lv_sub hl [1, 2, 0] rfl) (gOk_some hok)
set_option maxHeartbeats 4000000 in
set_option maxRecDepth 100000 in
theorem w_X2_readCondition_25 {X : gX} {τ : gτ} {p : Program} {l : Launch} {e : Env} {s : State} {m : MethodId} {args : Array Value} {below : List Frame} {meth : Method} {c : Code} (fx : gFx X p s m args meth c cX2_readCondition 4 RX2) (hS : gS0 l X) (F : Nat → Nat → Int32 → gG → Option gG) (d : Nat) (hF0 : ∀ (x0 : Nat) (x1 : Int32) (G : gG) (G' : gG), gK τ x0 2 → F 0 x0 x1 G = some G' → gM l X τ yX2_readCondition cX2_readCondition 4 none (rm_r_X2 d) [.ref x0, .int x1] G none G') (hF1 : ∀ (x0 : Nat) (x1 : Int32) (G : gG) (G' : gG), gK τ x0 2 → F 1 x0 x1 G = some G' → gM l X τ yX2_readAtom cX2_readAtom 6 none (rm_r_X2 d) [.ref x0, .int x1] G none G')  (n : Nat) (x0 : Nat) (x1 : Int32) (x2 : Int32)  (h0 : gK τ x0 2)  {Q : State → Prop} {K : ((Int32 × gG) ⊕ ((gG))) → Prop} {G : gG} {H : Heap} {locs : List Loc} {ls : Array Slot} (hw : gHw X τ G H locs) (hl : lv_has ls 4 [(0, .ref x0), (1, .int x1), (2, .int x2)]) (hok : gOk (k_X2_readCondition_25 τ n F x0 x1 x2  G) K) (hc : ∀ (y2 : Int32) (G : gG) (H : Heap) (locs : List Loc) (ls : Array Slot), gHw X τ G H locs → lv_has ls 4 [(0, .ref x0), (1, .int x1), (2, .int y2)] → K (.inl (y2, G)) → W p l e (rm_r_X2 (d + 1)) s m args below meth c H locs 0 0 Q (F0 m 2 ls [])) (hx0 : ∀ (G : gG) (H : Heap) (locs : List Loc) (ls : Array Slot), gHw X τ G H locs → lv_has ls 4 [] → K (.inr G) → W p l e (rm_r_X2 (d + 1)) s m args below meth c H locs 0 0 Q (F0 m 92 ls [])) : W p l e (rm_r_X2 (d + 1)) s m args below meth c H locs 0 0 Q (F0 m 25 ls []) := by
  unfold k_X2_readCondition_25 at hok
  refine lv_aload_n fx.1 fx.2.1 dX2_readCondition_25 rfl (lv_at hl 0 rfl) ?_
  refine lv_iload_n fx.1 fx.2.1 dX2_readCondition_26 rfl (lv_at hl 1 rfl) ?_
  obtain ⟨G1, hf, hok⟩ := gOk_bind hok
  refine g_callV0 (κ := 2) fx hw (hF1 x0 x1 G G1 h0 hf) lv_RX2_74 ⟨rfl, rfl⟩ rfl rfl h0 rfl hl.1 rfl ⟨by simp only [rm_r_X2]; omega, by simp only [rm_r_X2]; omega⟩ (Nat.le_of_ble_eq_true rfl) ⟨Nat.zero_le _, Nat.zero_le _⟩ dX2_readCondition_27 (fun H locs hw => ?_)
  refine lv_iconst (v := 0) fx.1 fx.2.1 dX2_readCondition_30 (by decide) ?_
  refine lv_istore_n (lv' := [(3, .int (0 : Int32)), (0, .ref x0), (1, .int x1), (2, .int x2)]) fx.1 fx.2.1 dX2_readCondition_31 rfl hl (by decide) rfl (fun ls hl => ?_)
  refine w_l_X2_readCondition_32 fx hS F d hF0 hF1 n x0 x1 x2 h0 ?_ n (0 : Int32) G1 _ _ _  hw (lv_sub hl [1, 2, 3, 0] rfl) (gOk_bindK hok)
  intro G10 H locs ls hw hl hok
  have hok : gOk (ρ := (Int32 × gG) ⊕ ((gG))) (k_X2_readCondition_72 τ n F x0 x1 x2  G10) _ := hok
  exact w_X2_readCondition_72 fx hS F d hF0 hF1 n x0 x1 x2  h0  hw (lv_sub hl [0, 1, 2] rfl) hok hc hx0
set_option maxHeartbeats 4000000 in
set_option maxRecDepth 100000 in
theorem w_b_X2_readCondition_2 {X : gX} {τ : gτ} {p : Program} {l : Launch} {e : Env} {s : State} {m : MethodId} {args : Array Value} {below : List Frame} {meth : Method} {c : Code} (fx : gFx X p s m args meth c cX2_readCondition 4 RX2) (hS : gS0 l X) (F : Nat → Nat → Int32 → gG → Option gG) (d : Nat) (hF0 : ∀ (x0 : Nat) (x1 : Int32) (G : gG) (G' : gG), gK τ x0 2 → F 0 x0 x1 G = some G' → gM l X τ yX2_readCondition cX2_readCondition 4 none (rm_r_X2 d) [.ref x0, .int x1] G none G') (hF1 : ∀ (x0 : Nat) (x1 : Int32) (G : gG) (G' : gG), gK τ x0 2 → F 1 x0 x1 G = some G' → gM l X τ yX2_readAtom cX2_readAtom 6 none (rm_r_X2 d) [.ref x0, .int x1] G none G')  (n : Nat) (x0 : Nat) (x1 : Int32) (x2 : Int32) (h0 : gK τ x0 2) {Q : State → Prop} {K : ((Int32 × gG) ⊕ ((gG))) → Prop} {G : gG} {H : Heap} {locs : List Loc} {ls : Array Slot} (hw : gHw X τ G H locs) (hl : lv_has ls 4 [(0, .ref x0), (1, .int x1), (2, .int x2)]) (hok : gOk (b_X2_readCondition_2 τ n F x0 x1 x2 G) K) (hc : ∀ (y2 : Int32) (G : gG) (H : Heap) (locs : List Loc) (ls : Array Slot), gHw X τ G H locs → lv_has ls 4 [(0, .ref x0), (1, .int x1), (2, .int y2)] → K (.inl (y2, G)) → W p l e (rm_r_X2 (d + 1)) s m args below meth c H locs 0 0 Q (F0 m 2 ls [])) (hx0 : ∀ (G : gG) (H : Heap) (locs : List Loc) (ls : Array Slot), gHw X τ G H locs → lv_has ls 4 [] → K (.inr G) → W p l e (rm_r_X2 (d + 1)) s m args below meth c H locs 0 0 Q (F0 m 92 ls [])) : W p l e (rm_r_X2 (d + 1)) s m args below meth c H locs 0 0 Q (F0 m 2 ls []) := by
  unfold b_X2_readCondition_2 at hok
  refine lv_iload_n fx.1 fx.2.1 dX2_readCondition_2 rfl (lv_at hl 2 rfl) ?_
  refine lv_sipush (v := 400) fx.1 fx.2.1 dX2_readCondition_3 (by decide) ?_
  refine g_icmp_ge (tgt := 92) fx dX2_readCondition_6 (by decide) hok (fun hok => ?_) (fun hok => ?_)
  · exact hx0  G _ _ _  hw (lv_sub hl [] rfl) (gOk_some hok)
  · refine lv_iload_n fx.1 fx.2.1 dX2_readCondition_9 rfl (lv_at hl 2 rfl) ?_
    refine g_if_eq (tgt := 25) fx dX2_readCondition_10 (by decide) hok (fun hok => ?_) (fun hok => ?_)
    · exact w_X2_readCondition_25 fx hS F d hF0 hF1 n x0 x1 x2  h0  hw (lv_sub hl [0, 1, 2] rfl) hok hc hx0
    · refine lv_aload_n fx.1 fx.2.1 dX2_readCondition_13 rfl (lv_at hl 0 rfl) ?_
      refine g_getr fx hw h0 lf_RX2_9 rfl dX2_readCondition_14 hok (fun a15 h_a15 hok => ?_)
      refine g_ldcS fx hS gt_RX2_72 dX2_readCondition_17 (fun w16 h_w16 => ?_)
      obtain ⟨v17, G18, hf, hok⟩ := gOk_bind2 hok
      refine g_callV0 (κ := 7) fx hw (c_X7_takeWord l X τ n hS a15 s_or G h_a15 h_w16 hf) lv_RX2_33 ⟨rfl, rfl⟩ rfl rfl h_a15 rfl hl.1 rfl ⟨by simp only [rm_r_X2, rm_X7_takeWord]; omega, by simp only [rm_r_X2, rm_X7_takeWord]; omega⟩ (Nat.le_of_ble_eq_true rfl) ⟨Nat.zero_le _, Nat.zero_le _⟩ dX2_readCondition_19 (fun H locs hw => ?_)
      refine g_if_eq (tgt := 92) fx dX2_readCondition_22 (by decide) hok (fun hok => ?_) (fun hok => ?_)
      · exact hx0  G18 _ _ _  hw (lv_sub hl [] rfl) (gOk_some hok)
      · exact w_X2_readCondition_25 fx hS F d hF0 hF1 n x0 x1 x2  h0  hw (lv_sub hl [0, 1, 2] rfl) hok hc hx0
theorem w_l_X2_readCondition_2 {X : gX} {τ : gτ} {p : Program} {l : Launch} {e : Env} {s : State} {m : MethodId} {args : Array Value} {below : List Frame} {meth : Method} {c : Code} (fx : gFx X p s m args meth c cX2_readCondition 4 RX2) (hS : gS0 l X) (F : Nat → Nat → Int32 → gG → Option gG) (d : Nat) (hF0 : ∀ (x0 : Nat) (x1 : Int32) (G : gG) (G' : gG), gK τ x0 2 → F 0 x0 x1 G = some G' → gM l X τ yX2_readCondition cX2_readCondition 4 none (rm_r_X2 d) [.ref x0, .int x1] G none G') (hF1 : ∀ (x0 : Nat) (x1 : Int32) (G : gG) (G' : gG), gK τ x0 2 → F 1 x0 x1 G = some G' → gM l X τ yX2_readAtom cX2_readAtom 6 none (rm_r_X2 d) [.ref x0, .int x1] G none G')  (n : Nat) (x0 : Nat) (x1 : Int32) (h0 : gK τ x0 2) {Q : State → Prop} {K : ((gG)) → Prop} (hx0 : ∀ (G : gG) (H : Heap) (locs : List Loc) (ls : Array Slot), gHw X τ G H locs → lv_has ls 4 [] → K G → W p l e (rm_r_X2 (d + 1)) s m args below meth c H locs 0 0 Q (F0 m 92 ls [])) : ∀ (k : Nat) (x2 : Int32) (G : gG) (H : Heap) (locs : List Loc) (ls : Array Slot), gHw X τ G H locs → lv_has ls 4 [(0, .ref x0), (1, .int x1), (2, .int x2)] → gOk (gIter (fun (q : Int32 × gG) => b_X2_readCondition_2 τ n F x0 x1 q.1 q.2) k (x2, G)) K → W p l e (rm_r_X2 (d + 1)) s m args below meth c H locs 0 0 Q (F0 m 2 ls []) := by
  intro k
  induction k with
  | zero =>
    intro x2 G H locs ls hw hl hok
    exact gOk_iter0 hok
  | succ k hc =>
    intro x2 G H locs ls hw hl hok
    exact w_b_X2_readCondition_2 fx hS F d hF0 hF1 n x0 x1 x2 h0 hw hl (gOk_iter hok) hc hx0
set_option maxHeartbeats 4000000 in
set_option maxRecDepth 100000 in
theorem ce_X2_readCondition (l : Launch) (X : gX) (τ : gτ) (n : Nat) (hS : gS0 l X) (F : Nat → Nat → Int32 → gG → Option gG) (d : Nat) (hF0 : ∀ (x0 : Nat) (x1 : Int32) (G : gG) (G' : gG), gK τ x0 2 → F 0 x0 x1 G = some G' → gM l X τ yX2_readCondition cX2_readCondition 4 none (rm_r_X2 d) [.ref x0, .int x1] G none G') (hF1 : ∀ (x0 : Nat) (x1 : Int32) (G : gG) (G' : gG), gK τ x0 2 → F 1 x0 x1 G = some G' → gM l X τ yX2_readAtom cX2_readAtom 6 none (rm_r_X2 d) [.ref x0, .int x1] G none G')  (x0 : Nat) (x1 : Int32) (G : gG) (h0 : gK τ x0 2) {G' : gG} (h : e_X2_readCondition τ n F x0 x1 G = some G') : gM l X τ yX2_readCondition cX2_readCondition 4 none (rm_r_X2 (d + 1)) [.ref x0, .int x1] G none G' := by
  refine g_body (by decide +kernel) (Nat.le_of_ble_eq_true rfl) ?_
  intro p e s m args below meth c ls fx hr hw hl
  have fx : gFx X p s m args meth c cX2_readCondition 4 RX2 := fx
  have hl : lv_has ls 4 [(0, .ref x0), (1, .int x1)] := hl
  have hok : gOk (e_X2_readCondition τ n F x0 x1 G) (fun q => q = G') := ⟨_, h, rfl⟩
  unfold e_X2_readCondition at hok
  show W p l e (rm_r_X2 (d + 1)) s m args below meth c s.heap [] 0 0 (MQ below (gQ X τ none G') args s 0 0 (gFree X)) _
  refine lv_iconst (v := 0) fx.1 fx.2.1 dX2_readCondition_0 (by decide) ?_
  refine lv_istore_n (lv' := [(2, .int (0 : Int32)), (0, .ref x0), (1, .int x1)]) fx.1 fx.2.1 dX2_readCondition_1 rfl hl (by decide) rfl (fun ls hl => ?_)
  refine w_l_X2_readCondition_2 fx hS F d hF0 hF1 n x0 x1 h0 ?_ n (0 : Int32) G _ _ _  hw (lv_sub hl [1, 2, 0] rfl) (gOk_bindK hok)
  intro G19 H locs ls hw hl hok
  have hok : gOk (ρ := gG) (some G19) _ := hok
  cases gOk_some hok
  exact g_vret fx hw hr dX2_readCondition_92
def r_X2 (τ : gτ) (n : Nat) : Nat → Nat → Nat → Int32 → gG → Option gG
  | 0 => fun _ _ _ _ => none
  | d + 1 => fun t x0 x1 G => match t with
    | 0 => e_X2_readCondition τ n (r_X2 τ n d) x0 x1 G
    | _ => e_X2_readAtom τ n (r_X2 τ n d) x0 x1 G
theorem c_r_X2 (l : Launch) (X : gX) (τ : gτ) (n : Nat) (hS : gS0 l X) : ∀ d : Nat, (∀ (x0 : Nat) (x1 : Int32) (G : gG) (G' : gG), gK τ x0 2 → r_X2 τ n d 0 x0 x1 G = some G' → gM l X τ yX2_readCondition cX2_readCondition 4 none (rm_r_X2 d) [.ref x0, .int x1] G none G') ∧ (∀ (x0 : Nat) (x1 : Int32) (G : gG) (G' : gG), gK τ x0 2 → r_X2 τ n d 1 x0 x1 G = some G' → gM l X τ yX2_readAtom cX2_readAtom 6 none (rm_r_X2 d) [.ref x0, .int x1] G none G') := by
  intro d
  induction d with
  | zero =>
    refine ⟨?_, ?_⟩
    · intro x0 x1 G G' _ h
      exact absurd (show (none : Option (gG)) = some _ from h) (by simp)
    · intro x0 x1 G G' _ h
      exact absurd (show (none : Option (gG)) = some _ from h) (by simp)
  | succ d ih =>
    obtain ⟨i0, i1⟩ := ih
    refine ⟨?_, ?_⟩
    · intro x0 x1 G G' hk h
      exact ce_X2_readCondition l X τ n hS (r_X2 τ n d) d i0 i1 x0 x1 G hk h
    · intro x0 x1 G G' hk h
      exact ce_X2_readAtom l X τ n hS (r_X2 τ n d) d i0 i1 x0 x1 G hk h

def rm_X2_readCondition : Room := rm_r_X2 16
def f_X2_readCondition (τ : gτ) (n : Nat) (x0 : Nat) (x1 : Int32) (G : gG) : Option (gG) := r_X2 τ n 16 0 x0 x1 G
theorem c_X2_readCondition (l : Launch) (X : gX) (τ : gτ) (n : Nat) (hS : gS0 l X) (x0 : Nat) (x1 : Int32) (G : gG) (h0 : gK τ x0 2) {G' : gG} (h : f_X2_readCondition τ n x0 x1 G = some G') : gM l X τ yX2_readCondition cX2_readCondition 4 none rm_X2_readCondition [.ref x0, .int x1] G none G' := (c_r_X2 l X τ n hS 16).1 x0 x1 G G' h0 h
def rm_X2_readAtom : Room := rm_r_X2 16
def f_X2_readAtom (τ : gτ) (n : Nat) (x0 : Nat) (x1 : Int32) (G : gG) : Option (gG) := r_X2 τ n 16 1 x0 x1 G
theorem c_X2_readAtom (l : Launch) (X : gX) (τ : gτ) (n : Nat) (hS : gS0 l X) (x0 : Nat) (x1 : Int32) (G : gG) (h0 : gK τ x0 2) {G' : gG} (h : f_X2_readAtom τ n x0 x1 G = some G') : gM l X τ yX2_readAtom cX2_readAtom 6 none rm_X2_readAtom [.ref x0, .int x1] G none G' := (c_r_X2 l X τ n hS 16).2 x0 x1 G G' h0 h
theorem dX7_isRight_0 : decode cX7_isRight 0 = .ok (.aload_n 0, 1) := by decide +kernel
theorem dX7_isRight_1 : decode cX7_isRight 1 = .ok (.getfield 15, 3) := by decide +kernel
theorem dX7_isRight_4 : decode cX7_isRight 4 = .ok (.iconst (-1), 1) := by decide +kernel
theorem dX7_isRight_5 : decode cX7_isRight 5 = .ok (.if_icmp .ne 7, 3) := by decide +kernel
theorem dX7_isRight_8 : decode cX7_isRight 8 = .ok (.iconst 1, 1) := by decide +kernel
theorem dX7_isRight_9 : decode cX7_isRight 9 = .ok (.goto 4, 3) := by decide +kernel
theorem dX7_isRight_12 : decode cX7_isRight 12 = .ok (.iconst 0, 1) := by decide +kernel
theorem dX7_isRight_13 : decode cX7_isRight 13 = .ok (.ireturn, 1) := by decide +kernel
def rm_X7_isRight : Room := { frames := 0, cells := 0, slots := 0, locals := 0 }
def f_X7_isRight (x0 : Nat) (G : gG) : Option (Int32) :=
  if (gi G 7 2 x0) = (-1 : Int32) then (some (1))
  else (some (0))
set_option maxHeartbeats 4000000 in
set_option maxRecDepth 100000 in
theorem c_X7_isRight (l : Launch) (X : gX) (τ : gτ) (x0 : Nat) (G : gG) (h0 : gK τ x0 7) {r : Int32}  (h : f_X7_isRight x0 G = some r) : gM l X τ yX7_isRight cX7_isRight 1 (some .boolean) rm_X7_isRight [.ref x0] G (some (.int r)) G := by
  refine g_body (by decide +kernel) (Nat.le_of_ble_eq_true rfl) ?_
  intro p e s m args below meth c ls fx hr hw hl
  have fx : gFx X p s m args meth c cX7_isRight 1 RX7 := fx
  have hl : lv_has ls 1 [(0, .ref x0)] := hl
  have hok : gOk (f_X7_isRight x0 G) (fun q => q = r) := ⟨_, h, rfl⟩
  unfold f_X7_isRight at hok
  show W p l e rm_X7_isRight s m args below meth c s.heap [] 0 0 (MQ below (gQ X τ (some (.int r)) G) args s 0 0 (gFree X)) _
  refine lv_aload_n fx.1 fx.2.1 dX7_isRight_0 rfl (lv_at hl 0 rfl) ?_
  refine g_geti fx hw h0 lf_RX7_15 rfl dX7_isRight_1 ?_
  refine lv_iconst (v := (-1)) fx.1 fx.2.1 dX7_isRight_4 (by decide) ?_
  refine g_icmp_ne (tgt := 12) fx dX7_isRight_5 (by decide) hok (fun hok => ?_) (fun hok => ?_)
  · refine lv_iconst (v := 1) fx.1 fx.2.1 dX7_isRight_8 (by decide) ?_
    refine lv_goto (tgt := 13) fx.1 fx.2.1 dX7_isRight_9 (by decide) ?_
    cases gOk_some hok
    exact g_zret fx hw hr (by decide) dX7_isRight_13
  · refine lv_iconst (v := 0) fx.1 fx.2.1 dX7_isRight_12 (by decide) ?_
    cases gOk_some hok
    exact g_zret fx hw hr (by decide) dX7_isRight_13
theorem dX7_takeLineEnd_0 : decode cX7_takeLineEnd 0 = .ok (.aload_n 0, 1) := by decide +kernel
theorem dX7_takeLineEnd_1 : decode cX7_takeLineEnd 1 = .ok (.invokevirtual 54, 3) := by decide +kernel
theorem dX7_takeLineEnd_4 : decode cX7_takeLineEnd 4 = .ok (.ifCond .eq 5, 3) := by decide +kernel
theorem dX7_takeLineEnd_7 : decode cX7_takeLineEnd 7 = .ok (.iconst 0, 1) := by decide +kernel
theorem dX7_takeLineEnd_8 : decode cX7_takeLineEnd 8 = .ok (.ireturn, 1) := by decide +kernel
theorem dX7_takeLineEnd_9 : decode cX7_takeLineEnd 9 = .ok (.aload_n 0, 1) := by decide +kernel
theorem dX7_takeLineEnd_10 : decode cX7_takeLineEnd 10 = .ok (.bipush 59, 2) := by decide +kernel
theorem dX7_takeLineEnd_12 : decode cX7_takeLineEnd 12 = .ok (.invokevirtual 58, 3) := by decide +kernel
theorem dX7_takeLineEnd_15 : decode cX7_takeLineEnd 15 = .ok (.aload_n 0, 1) := by decide +kernel
theorem dX7_takeLineEnd_16 : decode cX7_takeLineEnd 16 = .ok (.invokevirtual 62, 3) := by decide +kernel
theorem dX7_takeLineEnd_19 : decode cX7_takeLineEnd 19 = .ok (.ireturn, 1) := by decide +kernel
theorem lv_RX7_54 : gLv RX7 54 RX7 yX7_isAtEnd cX7_isAtEnd 1 (some .boolean) 0 := gLv_of (wA_t (wt4 (List.mem_of_getElem? (i := 61) (by decide +kernel))) (by decide +kernel)) (wA_t (wt3 (List.mem_of_getElem? (i := 162) (by decide +kernel))) (by decide +kernel)) (wA_t (wt3 (List.mem_of_getElem? (i := 163) (by decide +kernel))) (by decide +kernel)) (wA_t (wt1 (List.mem_of_getElem? (i := 2) (by decide +kernel))) (by decide +kernel)) (wA_t (wt3 (List.mem_of_getElem? (i := 164) (by decide +kernel))) (by decide +kernel)) ⟨rfl, by decide +kernel, by decide +kernel, by decide +kernel⟩
theorem lv_RX7_58 : gLv RX7 58 RX7 yX7_needSign cX7_needSign 2 none 1 := gLv_of (wA_t (wt4 (List.mem_of_getElem? (i := 62) (by decide +kernel))) (by decide +kernel)) (wA_t (wt4 (List.mem_of_getElem? (i := 63) (by decide +kernel))) (by decide +kernel)) (wA_t (wt4 (List.mem_of_getElem? (i := 64) (by decide +kernel))) (by decide +kernel)) (wA_t (wt1 (List.mem_of_getElem? (i := 2) (by decide +kernel))) (by decide +kernel)) (wA_t (wt4 (List.mem_of_getElem? (i := 65) (by decide +kernel))) (by decide +kernel)) ⟨rfl, by decide +kernel, by decide +kernel, by decide +kernel⟩
theorem lv_RX7_62 : gLv RX7 62 RX7 yX7_isRight cX7_isRight 1 (some .boolean) 0 := gLv_of (wA_t (wt4 (List.mem_of_getElem? (i := 70) (by decide +kernel))) (by decide +kernel)) (wA_t (wt4 (List.mem_of_getElem? (i := 3) (by decide +kernel))) (by decide +kernel)) (wA_t (wt4 (List.mem_of_getElem? (i := 4) (by decide +kernel))) (by decide +kernel)) (wA_t (wt1 (List.mem_of_getElem? (i := 2) (by decide +kernel))) (by decide +kernel)) (wA_t (wt4 (List.mem_of_getElem? (i := 5) (by decide +kernel))) (by decide +kernel)) ⟨rfl, by decide +kernel, by decide +kernel, by decide +kernel⟩
def rm_X7_takeLineEnd : Room := { frames := 3, cells := 0, slots := 0, locals := 63 }
def f_X7_takeLineEnd (τ : gτ) (n : Nat) (x0 : Nat) (G : gG) : Option (Int32 × gG) :=
  (f_X7_isAtEnd x0 G).bind fun v1 =>
  if v1 = 0 then ((f_X7_needSign τ n x0 (59 : Int32) G).bind fun G2 =>
  (f_X7_isRight x0 G2).bind fun v3 =>
  gchk (v3 = 0 ∨ v3 = 1) <| some (v3, G2))
  else (some (0, G))
set_option maxHeartbeats 4000000 in
set_option maxRecDepth 100000 in
theorem c_X7_takeLineEnd (l : Launch) (X : gX) (τ : gτ) (n : Nat) (x0 : Nat) (G : gG) (h0 : gK τ x0 7) {r : Int32} {G' : gG} (h : f_X7_takeLineEnd τ n x0 G = some (r, G')) : gM l X τ yX7_takeLineEnd cX7_takeLineEnd 1 (some .boolean) rm_X7_takeLineEnd [.ref x0] G (some (.int r)) G' := by
  refine g_body (by decide +kernel) (Nat.le_of_ble_eq_true rfl) ?_
  intro p e s m args below meth c ls fx hr hw hl
  have fx : gFx X p s m args meth c cX7_takeLineEnd 1 RX7 := fx
  have hl : lv_has ls 1 [(0, .ref x0)] := hl
  have hok : gOk (f_X7_takeLineEnd τ n x0 G) (fun q => q = (r, G')) := ⟨_, h, rfl⟩
  unfold f_X7_takeLineEnd at hok
  show W p l e rm_X7_takeLineEnd s m args below meth c s.heap [] 0 0 (MQ below (gQ X τ (some (.int r)) G') args s 0 0 (gFree X)) _
  refine lv_aload_n fx.1 fx.2.1 dX7_takeLineEnd_0 rfl (lv_at hl 0 rfl) ?_
  obtain ⟨v1, hf, hok⟩ := gOk_bind hok
  refine g_callV0 (κ := 7) fx hw (c_X7_isAtEnd l X τ x0 G h0 hf) lv_RX7_54 ⟨rfl, rfl⟩ rfl rfl h0 rfl hl.1 rfl ⟨Nat.le_of_ble_eq_true rfl, Nat.le_of_ble_eq_true rfl⟩ (Nat.le_of_ble_eq_true rfl) ⟨Nat.le_of_ble_eq_true rfl, Nat.le_of_ble_eq_true rfl⟩ dX7_takeLineEnd_1 (fun H locs hw => ?_)
  refine g_if_eq (tgt := 9) fx dX7_takeLineEnd_4 (by decide) hok (fun hok => ?_) (fun hok => ?_)
  · refine lv_aload_n fx.1 fx.2.1 dX7_takeLineEnd_9 rfl (lv_at hl 0 rfl) ?_
    refine lv_bipush (v := 59) fx.1 fx.2.1 dX7_takeLineEnd_10 (by decide) ?_
    obtain ⟨G2, hf, hok⟩ := gOk_bind hok
    refine g_callV0 (κ := 7) fx hw (c_X7_needSign l X τ n x0 (59 : Int32) G h0 hf) lv_RX7_58 ⟨rfl, rfl⟩ rfl rfl h0 rfl hl.1 rfl ⟨Nat.le_of_ble_eq_true rfl, Nat.le_of_ble_eq_true rfl⟩ (Nat.le_of_ble_eq_true rfl) ⟨Nat.le_of_ble_eq_true rfl, Nat.le_of_ble_eq_true rfl⟩ dX7_takeLineEnd_12 (fun H locs hw => ?_)
    refine lv_aload_n fx.1 fx.2.1 dX7_takeLineEnd_15 rfl (lv_at hl 0 rfl) ?_
    obtain ⟨v3, hf, hok⟩ := gOk_bind hok
    refine g_callV0 (κ := 7) fx hw (c_X7_isRight l X τ x0 G2 h0 hf) lv_RX7_62 ⟨rfl, rfl⟩ rfl rfl h0 rfl hl.1 rfl ⟨Nat.le_of_ble_eq_true rfl, Nat.le_of_ble_eq_true rfl⟩ (Nat.le_of_ble_eq_true rfl) ⟨Nat.le_of_ble_eq_true rfl, Nat.le_of_ble_eq_true rfl⟩ dX7_takeLineEnd_16 (fun H locs hw => ?_)
    obtain ⟨hz, hok⟩ := gOk_chk hok
    cases gOk_some hok
    exact g_zret fx hw hr hz dX7_takeLineEnd_19
  · refine lv_iconst (v := 0) fx.1 fx.2.1 dX7_takeLineEnd_7 (by decide) ?_
    cases gOk_some hok
    exact g_zret fx hw hr (by decide) dX7_takeLineEnd_8
theorem dX2_read_0 : decode cX2_read 0 = .ok (.aload_n 0, 1) := by decide +kernel
theorem dX2_read_1 : decode cX2_read 1 = .ok (.aload_n 1, 1) := by decide +kernel
theorem dX2_read_2 : decode cX2_read 2 = .ok (.putfield 15, 3) := by decide +kernel
theorem dX2_read_5 : decode cX2_read 5 = .ok (.aload_n 0, 1) := by decide +kernel
theorem dX2_read_6 : decode cX2_read 6 = .ok (.getfield 15, 3) := by decide +kernel
theorem dX2_read_9 : decode cX2_read 9 = .ok (.invokevirtual 19, 3) := by decide +kernel
theorem dX2_read_12 : decode cX2_read 12 = .ok (.aload_n 0, 1) := by decide +kernel
theorem dX2_read_13 : decode cX2_read 13 = .ok (.getfield 9, 3) := by decide +kernel
theorem dX2_read_16 : decode cX2_read 16 = .ok (.invokevirtual 24, 3) := by decide +kernel
theorem dX2_read_19 : decode cX2_read 19 = .ok (.aload_n 0, 1) := by decide +kernel
theorem dX2_read_20 : decode cX2_read 20 = .ok (.getfield 9, 3) := by decide +kernel
theorem dX2_read_23 : decode cX2_read 23 = .ok (.invokevirtual 27, 3) := by decide +kernel
theorem dX2_read_26 : decode cX2_read 26 = .ok (.ifCond .ne 7, 3) := by decide +kernel
theorem dX2_read_29 : decode cX2_read 29 = .ok (.iconst 1, 1) := by decide +kernel
theorem dX2_read_30 : decode cX2_read 30 = .ok (.goto 4, 3) := by decide +kernel
theorem dX2_read_33 : decode cX2_read 33 = .ok (.iconst 0, 1) := by decide +kernel
theorem dX2_read_34 : decode cX2_read 34 = .ok (.istore_n 2, 1) := by decide +kernel
theorem dX2_read_35 : decode cX2_read 35 = .ok (.iconst 0, 1) := by decide +kernel
theorem dX2_read_36 : decode cX2_read 36 = .ok (.istore_n 3, 1) := by decide +kernel
theorem dX2_read_37 : decode cX2_read 37 = .ok (.iload_n 3, 1) := by decide +kernel
theorem dX2_read_38 : decode cX2_read 38 = .ok (.bipush 12, 2) := by decide +kernel
theorem dX2_read_40 : decode cX2_read 40 = .ok (.if_icmp .ge 98, 3) := by decide +kernel
theorem dX2_read_43 : decode cX2_read 43 = .ok (.iload_n 2, 1) := by decide +kernel
theorem dX2_read_44 : decode cX2_read 44 = .ok (.ifCond .eq 94, 3) := by decide +kernel
theorem dX2_read_47 : decode cX2_read 47 = .ok (.aload_n 0, 1) := by decide +kernel
theorem dX2_read_48 : decode cX2_read 48 = .ok (.getfield 9, 3) := by decide +kernel
theorem dX2_read_51 : decode cX2_read 51 = .ok (.ldc 31, 2) := by decide +kernel
theorem dX2_read_53 : decode cX2_read 53 = .ok (.invokevirtual 33, 3) := by decide +kernel
theorem dX2_read_56 : decode cX2_read 56 = .ok (.istore 4, 2) := by decide +kernel
theorem dX2_read_58 : decode cX2_read 58 = .ok (.iload 4, 2) := by decide +kernel
theorem dX2_read_60 : decode cX2_read 60 = .ok (.ifCond .eq 7, 3) := by decide +kernel
theorem dX2_read_63 : decode cX2_read 63 = .ok (.iconst 0, 1) := by decide +kernel
theorem dX2_read_64 : decode cX2_read 64 = .ok (.goto 7, 3) := by decide +kernel
theorem dX2_read_67 : decode cX2_read 67 = .ok (.aload_n 0, 1) := by decide +kernel
theorem dX2_read_68 : decode cX2_read 68 = .ok (.invokevirtual 37, 3) := by decide +kernel
theorem dX2_read_71 : decode cX2_read 71 = .ok (.istore 5, 2) := by decide +kernel
theorem dX2_read_73 : decode cX2_read 73 = .ok (.aload_n 0, 1) := by decide +kernel
theorem dX2_read_74 : decode cX2_read 74 = .ok (.getfield 9, 3) := by decide +kernel
theorem dX2_read_77 : decode cX2_read 77 = .ok (.iconst 0, 1) := by decide +kernel
theorem dX2_read_78 : decode cX2_read 78 = .ok (.bipush 99, 2) := by decide +kernel
theorem dX2_read_80 : decode cX2_read 80 = .ok (.invokevirtual 41, 3) := by decide +kernel
theorem dX2_read_83 : decode cX2_read 83 = .ok (.istore 6, 2) := by decide +kernel
theorem dX2_read_85 : decode cX2_read 85 = .ok (.aload_n 0, 1) := by decide +kernel
theorem dX2_read_86 : decode cX2_read 86 = .ok (.getfield 9, 3) := by decide +kernel
theorem dX2_read_89 : decode cX2_read 89 = .ok (.ldc 45, 2) := by decide +kernel
theorem dX2_read_91 : decode cX2_read 91 = .ok (.invokevirtual 33, 3) := by decide +kernel
theorem dX2_read_94 : decode cX2_read 94 = .ok (.ifCond .eq 8, 3) := by decide +kernel
theorem dX2_read_97 : decode cX2_read 97 = .ok (.aload_n 0, 1) := by decide +kernel
theorem dX2_read_98 : decode cX2_read 98 = .ok (.iconst 0, 1) := by decide +kernel
theorem dX2_read_99 : decode cX2_read 99 = .ok (.invokevirtual 47, 3) := by decide +kernel
theorem dX2_read_102 : decode cX2_read 102 = .ok (.aload_n 0, 1) := by decide +kernel
theorem dX2_read_103 : decode cX2_read 103 = .ok (.getfield 15, 3) := by decide +kernel
theorem dX2_read_106 : decode cX2_read 106 = .ok (.iload 5, 2) := by decide +kernel
theorem dX2_read_108 : decode cX2_read 108 = .ok (.iload 4, 2) := by decide +kernel
theorem dX2_read_110 : decode cX2_read 110 = .ok (.ifCond .eq 9, 3) := by decide +kernel
theorem dX2_read_113 : decode cX2_read 113 = .ok (.iload 6, 2) := by decide +kernel
theorem dX2_read_115 : decode cX2_read 115 = .ok (.ineg, 1) := by decide +kernel
theorem dX2_read_116 : decode cX2_read 116 = .ok (.goto 5, 3) := by decide +kernel
theorem dX2_read_119 : decode cX2_read 119 = .ok (.iload 6, 2) := by decide +kernel
theorem dX2_read_121 : decode cX2_read 121 = .ok (.invokevirtual 51, 3) := by decide +kernel
theorem dX2_read_124 : decode cX2_read 124 = .ok (.aload_n 0, 1) := by decide +kernel
theorem dX2_read_125 : decode cX2_read 125 = .ok (.getfield 9, 3) := by decide +kernel
theorem dX2_read_128 : decode cX2_read 128 = .ok (.invokevirtual 55, 3) := by decide +kernel
theorem dX2_read_131 : decode cX2_read 131 = .ok (.istore_n 2, 1) := by decide +kernel
theorem dX2_read_132 : decode cX2_read 132 = .ok (.iinc 3 1, 3) := by decide +kernel
theorem dX2_read_135 : decode cX2_read 135 = .ok (.goto (-98), 3) := by decide +kernel
theorem dX2_read_138 : decode cX2_read 138 = .ok (.iload_n 2, 1) := by decide +kernel
theorem dX2_read_139 : decode cX2_read 139 = .ok (.ifCond .eq 10, 3) := by decide +kernel
theorem dX2_read_142 : decode cX2_read 142 = .ok (.aload_n 0, 1) := by decide +kernel
theorem dX2_read_143 : decode cX2_read 143 = .ok (.getfield 9, 3) := by decide +kernel
theorem dX2_read_146 : decode cX2_read 146 = .ok (.invokevirtual 58, 3) := by decide +kernel
theorem dX2_read_149 : decode cX2_read 149 = .ok (.aload_n 0, 1) := by decide +kernel
theorem dX2_read_150 : decode cX2_read 150 = .ok (.getfield 9, 3) := by decide +kernel
theorem dX2_read_153 : decode cX2_read 153 = .ok (.invokevirtual 61, 3) := by decide +kernel
theorem dX2_read_156 : decode cX2_read 156 = .ok (.ireturn, 1) := by decide +kernel
theorem lp_RX2_15 : gLp RX2 15 2 1 := ⟨(RX2, TX2, 2), rfl, by decide, wA_t (wt1 (List.mem_of_getElem? (i := 86) (by decide +kernel))) (by decide +kernel), rfl, rfl⟩
theorem lv_RX2_19 : gLv RX2 19 RX1 yX1_beginText cX1_beginText 1 none 0 := gLv_of (wA_t (wt4 (List.mem_of_getElem? (i := 168) (by decide +kernel))) (by decide +kernel)) (wA_t (wt4 (List.mem_of_getElem? (i := 169) (by decide +kernel))) (by decide +kernel)) (wA_t (wt4 (List.mem_of_getElem? (i := 170) (by decide +kernel))) (by decide +kernel)) (wA_t (wt1 (List.mem_of_getElem? (i := 11) (by decide +kernel))) (by decide +kernel)) (wA_t (wt4 (List.mem_of_getElem? (i := 171) (by decide +kernel))) (by decide +kernel)) ⟨rfl, by decide +kernel, by decide +kernel, by decide +kernel⟩
theorem lv_RX2_24 : gLv RX2 24 RX7 yX7_beginText cX7_beginText 1 none 0 := gLv_of (wA_t (wt4 (List.mem_of_getElem? (i := 172) (by decide +kernel))) (by decide +kernel)) (wA_t (wt3 (List.mem_of_getElem? (i := 154) (by decide +kernel))) (by decide +kernel)) (wA_t (wt3 (List.mem_of_getElem? (i := 155) (by decide +kernel))) (by decide +kernel)) (wA_t (wt1 (List.mem_of_getElem? (i := 2) (by decide +kernel))) (by decide +kernel)) (wA_t (wt3 (List.mem_of_getElem? (i := 156) (by decide +kernel))) (by decide +kernel)) ⟨rfl, by decide +kernel, by decide +kernel, by decide +kernel⟩
theorem lv_RX2_27 : gLv RX2 27 RX7 yX7_isAtEnd cX7_isAtEnd 1 (some .boolean) 0 := gLv_of (wA_t (wt4 (List.mem_of_getElem? (i := 173) (by decide +kernel))) (by decide +kernel)) (wA_t (wt3 (List.mem_of_getElem? (i := 162) (by decide +kernel))) (by decide +kernel)) (wA_t (wt3 (List.mem_of_getElem? (i := 163) (by decide +kernel))) (by decide +kernel)) (wA_t (wt1 (List.mem_of_getElem? (i := 2) (by decide +kernel))) (by decide +kernel)) (wA_t (wt3 (List.mem_of_getElem? (i := 164) (by decide +kernel))) (by decide +kernel)) ⟨rfl, by decide +kernel, by decide +kernel, by decide +kernel⟩
theorem lv_RX2_37 : gLv RX2 37 RX2 yX2_takeKind cX2_takeKind 1 (some .int) 0 := gLv_of (wA_t (wt4 (List.mem_of_getElem? (i := 176) (by decide +kernel))) (by decide +kernel)) (wA_t (wt4 (List.mem_of_getElem? (i := 178) (by decide +kernel))) (by decide +kernel)) (wA_of (List.mem_append_left _ (List.mem_map.mpr ⟨(⟨"YearRope$LawReader", "takeKind", "()I"⟩, 2), wp2 (List.mem_of_getElem? (i := 3) (by decide +kernel)), rfl⟩)) (by decide +kernel)) (wA_t (wt1 (List.mem_of_getElem? (i := 4) (by decide +kernel))) (by decide +kernel)) (wA_t (wt4 (List.mem_of_getElem? (i := 179) (by decide +kernel))) (by decide +kernel)) ⟨rfl, by decide +kernel, by decide +kernel, by decide +kernel⟩
theorem lv_RX2_51 : gLv RX2 51 RX1 yX1_addLine cX1_addLine 3 none 2 := gLv_of (wA_t (wt4 (List.mem_of_getElem? (i := 225) (by decide +kernel))) (by decide +kernel)) (wA_t (wt4 (List.mem_of_getElem? (i := 226) (by decide +kernel))) (by decide +kernel)) (wA_t (wt4 (List.mem_of_getElem? (i := 227) (by decide +kernel))) (by decide +kernel)) (wA_t (wt1 (List.mem_of_getElem? (i := 11) (by decide +kernel))) (by decide +kernel)) (wA_t (wt4 (List.mem_of_getElem? (i := 228) (by decide +kernel))) (by decide +kernel)) ⟨rfl, by decide +kernel, by decide +kernel, by decide +kernel⟩
theorem lv_RX2_55 : gLv RX2 55 RX7 yX7_takeLineEnd cX7_takeLineEnd 1 (some .boolean) 0 := gLv_of (wA_t (wt4 (List.mem_of_getElem? (i := 229) (by decide +kernel))) (by decide +kernel)) (wA_t (wt4 (List.mem_of_getElem? (i := 58) (by decide +kernel))) (by decide +kernel)) (wA_t (wt4 (List.mem_of_getElem? (i := 59) (by decide +kernel))) (by decide +kernel)) (wA_t (wt1 (List.mem_of_getElem? (i := 2) (by decide +kernel))) (by decide +kernel)) (wA_t (wt4 (List.mem_of_getElem? (i := 60) (by decide +kernel))) (by decide +kernel)) ⟨rfl, by decide +kernel, by decide +kernel, by decide +kernel⟩
theorem lv_RX2_61 : gLv RX2 61 RX7 yX7_isRight cX7_isRight 1 (some .boolean) 0 := gLv_of (wA_t (wt4 (List.mem_of_getElem? (i := 231) (by decide +kernel))) (by decide +kernel)) (wA_t (wt4 (List.mem_of_getElem? (i := 3) (by decide +kernel))) (by decide +kernel)) (wA_t (wt4 (List.mem_of_getElem? (i := 4) (by decide +kernel))) (by decide +kernel)) (wA_t (wt1 (List.mem_of_getElem? (i := 2) (by decide +kernel))) (by decide +kernel)) (wA_t (wt4 (List.mem_of_getElem? (i := 5) (by decide +kernel))) (by decide +kernel)) ⟨rfl, by decide +kernel, by decide +kernel, by decide +kernel⟩
theorem lv_RX2_58 : gLv RX2 58 RX7 yX7_refuse cX7_refuse 1 none 0 := gLv_of (wA_t (wt4 (List.mem_of_getElem? (i := 230) (by decide +kernel))) (by decide +kernel)) (wA_t (wt3 (List.mem_of_getElem? (i := 231) (by decide +kernel))) (by decide +kernel)) (wA_t (wt3 (List.mem_of_getElem? (i := 232) (by decide +kernel))) (by decide +kernel)) (wA_t (wt1 (List.mem_of_getElem? (i := 2) (by decide +kernel))) (by decide +kernel)) (wA_t (wt3 (List.mem_of_getElem? (i := 233) (by decide +kernel))) (by decide +kernel)) ⟨rfl, by decide +kernel, by decide +kernel, by decide +kernel⟩
def rm_X2_read : Room := { frames := 37, cells := 0, slots := 0, locals := 1063 }
def k_X2_read_121 (τ : gτ) (n : Nat) (x0 : Nat) (x3 : Int32) (s0 : Nat) (s1 : Int32) (s2 : Int32) (G : gG) : Option ((Int32 × Int32 × gG) ⊕ ((Int32 × gG))) :=
  (f_X1_addLine τ s0 s1 s2 G).bind fun G22 =>
  (gr G22 2 0 x0).bind fun a23 =>
  gBind2 (f_X7_takeLineEnd τ n a23 G22) fun v24 G25 =>
  gLet (x3 + 1) fun v26 =>
  some (.inl (v24, v26, G25))
def k_X2_read_102 (τ : gτ) (n : Nat) (x0 : Nat) (x3 : Int32) (x4 : Int32) (x5 : Int32) (x6 : Int32)  (G : gG) : Option ((Int32 × Int32 × gG) ⊕ ((Int32 × gG))) :=
  (gr G 2 1 x0).bind fun a21 =>
  if x4 = 0 then (k_X2_read_121 τ n x0 x3 a21 x5 x6 G)
  else (k_X2_read_121 τ n x0 x3 a21 x5 (-x6) G)
def k_X2_read_71 (τ : gτ) (n : Nat) (x0 : Nat) (x3 : Int32) (x4 : Int32) (s0 : Int32) (G : gG) : Option ((Int32 × Int32 × gG) ⊕ ((Int32 × gG))) :=
  (gr G 2 0 x0).bind fun a14 =>
  gBind2 (f_X7_takeNumber τ n a14 (0 : Int32) (99 : Int32) G) fun v15 G16 =>
  (gr G16 2 0 x0).bind fun a17 =>
  gBind2 (f_X7_takeWord τ n a17 s_if G16) fun v19 G20 =>
  if v19 = 0 then (k_X2_read_102 τ n x0 x3 x4 s0 v15  G20)
  else ((f_X2_readCondition τ n x0 (0 : Int32) G20).bind fun G27 =>
  k_X2_read_102 τ n x0 x3 x4 s0 v15  G27)
def b_X2_read_37 (τ : gτ) (n : Nat) (x0 : Nat) (x2 : Int32) (x3 : Int32) (G : gG) : Option ((Int32 × Int32 × gG) ⊕ ((Int32 × gG))) :=
  if (12 : Int32) ≤ x3 then (some (.inr (x2, G)))
  else (if x2 = 0 then (some (.inr (x2, G)))
  else ((gr G 2 0 x0).bind fun a8 =>
  gBind2 (f_X7_takeWord τ n a8 s_fail G) fun v10 G11 =>
  if v10 = 0 then (gBind2 (f_X2_takeKind τ n x0 G11) fun v12 G13 =>
  k_X2_read_71 τ n x0 x3 v10 v12 G13)
  else (k_X2_read_71 τ n x0 x3 v10 (0 : Int32) G11)))
def l_X2_read_37 (τ : gτ) (n : Nat) (x0 : Nat) (x2 : Int32) (x3 : Int32) (G : gG) : Option ((Int32 × gG)) :=
  gIter (fun (q : Int32 × Int32 × gG) => b_X2_read_37 τ n x0 q.1 q.2.1 q.2.2) n (x2, x3, G)
def k_X2_read_149 (τ : gτ) (n : Nat) (x0 : Nat)  (G : gG) : Option (Int32 × gG) :=
  (gr G 2 0 x0).bind fun a30 =>
  (f_X7_isRight a30 G).bind fun v31 =>
  gchk (v31 = 0 ∨ v31 = 1) <| some (v31, G)
def k_X2_read_138 (τ : gτ) (n : Nat) (x0 : Nat) (x2 : Int32)  (G : gG) : Option (Int32 × gG) :=
  if x2 = 0 then (k_X2_read_149 τ n x0  G)
  else ((gr G 2 0 x0).bind fun a32 =>
  (f_X7_refuse a32 G).bind fun G33 =>
  k_X2_read_149 τ n x0  G33)
def k_X2_read_34 (τ : gτ) (n : Nat) (x0 : Nat) (s0 : Int32) (G : gG) : Option (Int32 × gG) :=
  (l_X2_read_37 τ n x0 s0 (0 : Int32) G).bind fun q => gLet q.1 fun z28 => gLet q.2 fun G29 => 
  k_X2_read_138 τ n x0 z28  G29
def f_X2_read (τ : gτ) (n : Nat) (x0 : Nat) (x1 : Nat) (G : gG) : Option (Int32 × gG) :=
  gLet (gsr G 2 1 x0 (some x1)) fun G1 =>
  (gr G1 2 1 x0).bind fun a2 =>
  (f_X1_beginText a2 G1).bind fun G3 =>
  (gr G3 2 0 x0).bind fun a4 =>
  (f_X7_beginText τ n a4 G3).bind fun G5 =>
  (gr G5 2 0 x0).bind fun a6 =>
  (f_X7_isAtEnd a6 G5).bind fun v7 =>
  if v7 = 0 then (k_X2_read_34 τ n x0 (1 : Int32) G5)
  else (k_X2_read_34 τ n x0 (0 : Int32) G5)
set_option maxHeartbeats 4000000 in
set_option maxRecDepth 100000 in
theorem w_X2_read_121 {X : gX} {τ : gτ} {p : Program} {l : Launch} {e : Env} {s : State} {m : MethodId} {args : Array Value} {below : List Frame} {meth : Method} {c : Code} (fx : gFx X p s m args meth c cX2_read 7 RX2) (hS : gS0 l X) (n : Nat) (x0 : Nat) (x3 : Int32) (s0 : Nat) (s1 : Int32) (s2 : Int32) (h0 : gK τ x0 2) (hs0 : gK τ s0 1) {Q : State → Prop} {K : ((Int32 × Int32 × gG) ⊕ ((Int32 × gG))) → Prop} {G : gG} {H : Heap} {locs : List Loc} {ls : Array Slot} (hw : gHw X τ G H locs) (hl : lv_has ls 7 [(0, .ref x0), (3, .int x3)]) (hok : gOk (k_X2_read_121 τ n x0 x3 s0 s1 s2 G) K) (hc : ∀ (y2 : Int32) (y3 : Int32) (G : gG) (H : Heap) (locs : List Loc) (ls : Array Slot), gHw X τ G H locs → lv_has ls 7 [(0, .ref x0), (2, .int y2), (3, .int y3)] → K (.inl (y2, y3, G)) → W p l e rm_X2_read s m args below meth c H locs 0 0 Q (F0 m 37 ls [])) (hx0 : ∀ (y2 : Int32) (G : gG) (H : Heap) (locs : List Loc) (ls : Array Slot), gHw X τ G H locs → lv_has ls 7 [(0, .ref x0), (2, .int y2)] → K (.inr (y2, G)) → W p l e rm_X2_read s m args below meth c H locs 0 0 Q (F0 m 138 ls [])) : W p l e rm_X2_read s m args below meth c H locs 0 0 Q (F0 m 121 ls [.int s2, .int s1, .ref s0]) := by
  unfold k_X2_read_121 at hok
  obtain ⟨G22, hf, hok⟩ := gOk_bind hok
  refine g_callV0 (κ := 1) fx hw (c_X1_addLine l X τ s0 s1 s2 G hs0 hf) lv_RX2_51 ⟨rfl, rfl⟩ rfl rfl hs0 rfl hl.1 rfl ⟨Nat.le_of_ble_eq_true rfl, Nat.le_of_ble_eq_true rfl⟩ (Nat.le_of_ble_eq_true rfl) ⟨Nat.le_of_ble_eq_true rfl, Nat.le_of_ble_eq_true rfl⟩ dX2_read_121 (fun H locs hw => ?_)
  refine lv_aload_n fx.1 fx.2.1 dX2_read_124 rfl (lv_at hl 0 rfl) ?_
  refine g_getr fx hw h0 lf_RX2_9 rfl dX2_read_125 hok (fun a23 h_a23 hok => ?_)
  obtain ⟨v24, G25, hf, hok⟩ := gOk_bind2 hok
  refine g_callV0 (κ := 7) fx hw (c_X7_takeLineEnd l X τ n a23 G22 h_a23 hf) lv_RX2_55 ⟨rfl, rfl⟩ rfl rfl h_a23 rfl hl.1 rfl ⟨Nat.le_of_ble_eq_true rfl, Nat.le_of_ble_eq_true rfl⟩ (Nat.le_of_ble_eq_true rfl) ⟨Nat.le_of_ble_eq_true rfl, Nat.le_of_ble_eq_true rfl⟩ dX2_read_128 (fun H locs hw => ?_)
  refine lv_istore_n (lv' := [(2, .int v24), (0, .ref x0), (3, .int x3)]) fx.1 fx.2.1 dX2_read_131 rfl hl (by decide) rfl (fun ls hl => ?_)
  obtain ⟨v26, e_v26, hok⟩ := gOk_let hok
  refine lv_iinc (v := v26) (lv' := [(3, .int v26), (2, .int v24), (0, .ref x0)]) fx.1 fx.2.1 dX2_read_132 hl (k := 2) rfl (by rw [e_v26]; rfl) (by decide) rfl (fun ls hl => ?_)
  refine lv_goto (tgt := 37) fx.1 fx.2.1 dX2_read_135 (by decide) ?_
  exact hc v24 v26 G25 _ _ _  hw (lv_sub hl [2, 1, 0] rfl) (gOk_some hok)
set_option maxHeartbeats 4000000 in
set_option maxRecDepth 100000 in
theorem w_X2_read_102 {X : gX} {τ : gτ} {p : Program} {l : Launch} {e : Env} {s : State} {m : MethodId} {args : Array Value} {below : List Frame} {meth : Method} {c : Code} (fx : gFx X p s m args meth c cX2_read 7 RX2) (hS : gS0 l X) (n : Nat) (x0 : Nat) (x3 : Int32) (x4 : Int32) (x5 : Int32) (x6 : Int32)  (h0 : gK τ x0 2)  {Q : State → Prop} {K : ((Int32 × Int32 × gG) ⊕ ((Int32 × gG))) → Prop} {G : gG} {H : Heap} {locs : List Loc} {ls : Array Slot} (hw : gHw X τ G H locs) (hl : lv_has ls 7 [(0, .ref x0), (3, .int x3), (4, .int x4), (5, .int x5), (6, .int x6)]) (hok : gOk (k_X2_read_102 τ n x0 x3 x4 x5 x6  G) K) (hc : ∀ (y2 : Int32) (y3 : Int32) (G : gG) (H : Heap) (locs : List Loc) (ls : Array Slot), gHw X τ G H locs → lv_has ls 7 [(0, .ref x0), (2, .int y2), (3, .int y3)] → K (.inl (y2, y3, G)) → W p l e rm_X2_read s m args below meth c H locs 0 0 Q (F0 m 37 ls [])) (hx0 : ∀ (y2 : Int32) (G : gG) (H : Heap) (locs : List Loc) (ls : Array Slot), gHw X τ G H locs → lv_has ls 7 [(0, .ref x0), (2, .int y2)] → K (.inr (y2, G)) → W p l e rm_X2_read s m args below meth c H locs 0 0 Q (F0 m 138 ls [])) : W p l e rm_X2_read s m args below meth c H locs 0 0 Q (F0 m 102 ls []) := by
  unfold k_X2_read_102 at hok
  refine lv_aload_n fx.1 fx.2.1 dX2_read_102 rfl (lv_at hl 0 rfl) ?_
  refine g_getr fx hw h0 lf_RX2_15 rfl dX2_read_103 hok (fun a21 h_a21 hok => ?_)
  refine lv_iload fx.1 fx.2.1 dX2_read_106 (lv_at hl 3 rfl) ?_
  refine lv_iload fx.1 fx.2.1 dX2_read_108 (lv_at hl 2 rfl) ?_
  refine g_if_eq (tgt := 119) fx dX2_read_110 (by decide) hok (fun hok => ?_) (fun hok => ?_)
  · refine lv_iload fx.1 fx.2.1 dX2_read_119 (lv_at hl 4 rfl) ?_
    exact w_X2_read_121 fx hS n x0 x3 a21 x5 x6 h0 h_a21 hw (lv_sub hl [0, 1] rfl) hok hc hx0
  · refine lv_iload fx.1 fx.2.1 dX2_read_113 (lv_at hl 4 rfl) ?_
    refine lv_ineg fx.1 fx.2.1 dX2_read_115 ?_
    refine lv_goto (tgt := 121) fx.1 fx.2.1 dX2_read_116 (by decide) ?_
    exact w_X2_read_121 fx hS n x0 x3 a21 x5 (-x6) h0 h_a21 hw (lv_sub hl [0, 1] rfl) hok hc hx0
set_option maxHeartbeats 4000000 in
set_option maxRecDepth 100000 in
theorem w_X2_read_71 {X : gX} {τ : gτ} {p : Program} {l : Launch} {e : Env} {s : State} {m : MethodId} {args : Array Value} {below : List Frame} {meth : Method} {c : Code} (fx : gFx X p s m args meth c cX2_read 7 RX2) (hS : gS0 l X) (n : Nat) (x0 : Nat) (x3 : Int32) (x4 : Int32) (s0 : Int32) (h0 : gK τ x0 2)  {Q : State → Prop} {K : ((Int32 × Int32 × gG) ⊕ ((Int32 × gG))) → Prop} {G : gG} {H : Heap} {locs : List Loc} {ls : Array Slot} (hw : gHw X τ G H locs) (hl : lv_has ls 7 [(0, .ref x0), (3, .int x3), (4, .int x4)]) (hok : gOk (k_X2_read_71 τ n x0 x3 x4 s0 G) K) (hc : ∀ (y2 : Int32) (y3 : Int32) (G : gG) (H : Heap) (locs : List Loc) (ls : Array Slot), gHw X τ G H locs → lv_has ls 7 [(0, .ref x0), (2, .int y2), (3, .int y3)] → K (.inl (y2, y3, G)) → W p l e rm_X2_read s m args below meth c H locs 0 0 Q (F0 m 37 ls [])) (hx0 : ∀ (y2 : Int32) (G : gG) (H : Heap) (locs : List Loc) (ls : Array Slot), gHw X τ G H locs → lv_has ls 7 [(0, .ref x0), (2, .int y2)] → K (.inr (y2, G)) → W p l e rm_X2_read s m args below meth c H locs 0 0 Q (F0 m 138 ls [])) : W p l e rm_X2_read s m args below meth c H locs 0 0 Q (F0 m 71 ls [.int s0]) := by
  unfold k_X2_read_71 at hok
  refine lv_istore (lv' := [(5, .int s0), (0, .ref x0), (3, .int x3), (4, .int x4)]) fx.1 fx.2.1 dX2_read_71 hl (by decide) rfl (fun ls hl => ?_)
  refine lv_aload_n fx.1 fx.2.1 dX2_read_73 rfl (lv_at hl 1 rfl) ?_
  refine g_getr fx hw h0 lf_RX2_9 rfl dX2_read_74 hok (fun a14 h_a14 hok => ?_)
  refine lv_iconst (v := 0) fx.1 fx.2.1 dX2_read_77 (by decide) ?_
  refine lv_bipush (v := 99) fx.1 fx.2.1 dX2_read_78 (by decide) ?_
  obtain ⟨v15, G16, hf, hok⟩ := gOk_bind2 hok
  refine g_callV0 (κ := 7) fx hw (c_X7_takeNumber l X τ n a14 (0 : Int32) (99 : Int32) G h_a14 hf) lv_RX2_41 ⟨rfl, rfl⟩ rfl rfl h_a14 rfl hl.1 rfl ⟨Nat.le_of_ble_eq_true rfl, Nat.le_of_ble_eq_true rfl⟩ (Nat.le_of_ble_eq_true rfl) ⟨Nat.le_of_ble_eq_true rfl, Nat.le_of_ble_eq_true rfl⟩ dX2_read_80 (fun H locs hw => ?_)
  refine lv_istore (lv' := [(6, .int v15), (5, .int s0), (0, .ref x0), (3, .int x3), (4, .int x4)]) fx.1 fx.2.1 dX2_read_83 hl (by decide) rfl (fun ls hl => ?_)
  refine lv_aload_n fx.1 fx.2.1 dX2_read_85 rfl (lv_at hl 2 rfl) ?_
  refine g_getr fx hw h0 lf_RX2_9 rfl dX2_read_86 hok (fun a17 h_a17 hok => ?_)
  refine g_ldcS fx hS gt_RX2_45 dX2_read_89 (fun w18 h_w18 => ?_)
  obtain ⟨v19, G20, hf, hok⟩ := gOk_bind2 hok
  refine g_callV0 (κ := 7) fx hw (c_X7_takeWord l X τ n hS a17 s_if G16 h_a17 h_w18 hf) lv_RX2_33 ⟨rfl, rfl⟩ rfl rfl h_a17 rfl hl.1 rfl ⟨Nat.le_of_ble_eq_true rfl, Nat.le_of_ble_eq_true rfl⟩ (Nat.le_of_ble_eq_true rfl) ⟨Nat.le_of_ble_eq_true rfl, Nat.le_of_ble_eq_true rfl⟩ dX2_read_91 (fun H locs hw => ?_)
  refine g_if_eq (tgt := 102) fx dX2_read_94 (by decide) hok (fun hok => ?_) (fun hok => ?_)
  · exact w_X2_read_102 fx hS n x0 x3 x4 s0 v15  h0  hw (lv_sub hl [2, 3, 4, 1, 0] rfl) hok hc hx0
  · refine lv_aload_n fx.1 fx.2.1 dX2_read_97 rfl (lv_at hl 2 rfl) ?_
    refine lv_iconst (v := 0) fx.1 fx.2.1 dX2_read_98 (by decide) ?_
    obtain ⟨G27, hf, hok⟩ := gOk_bind hok
    refine g_callV0 (κ := 2) fx hw (c_X2_readCondition l X τ n hS x0 (0 : Int32) G20 h0 hf) lv_RX2_47 ⟨rfl, rfl⟩ rfl rfl h0 rfl hl.1 rfl ⟨Nat.le_of_ble_eq_true rfl, Nat.le_of_ble_eq_true rfl⟩ (Nat.le_of_ble_eq_true rfl) ⟨Nat.le_of_ble_eq_true rfl, Nat.le_of_ble_eq_true rfl⟩ dX2_read_99 (fun H locs hw => ?_)
    exact w_X2_read_102 fx hS n x0 x3 x4 s0 v15  h0  hw (lv_sub hl [2, 3, 4, 1, 0] rfl) hok hc hx0
set_option maxHeartbeats 4000000 in
set_option maxRecDepth 100000 in
theorem w_b_X2_read_37 {X : gX} {τ : gτ} {p : Program} {l : Launch} {e : Env} {s : State} {m : MethodId} {args : Array Value} {below : List Frame} {meth : Method} {c : Code} (fx : gFx X p s m args meth c cX2_read 7 RX2) (hS : gS0 l X) (n : Nat) (x0 : Nat) (x2 : Int32) (x3 : Int32) (h0 : gK τ x0 2) {Q : State → Prop} {K : ((Int32 × Int32 × gG) ⊕ ((Int32 × gG))) → Prop} {G : gG} {H : Heap} {locs : List Loc} {ls : Array Slot} (hw : gHw X τ G H locs) (hl : lv_has ls 7 [(0, .ref x0), (2, .int x2), (3, .int x3)]) (hok : gOk (b_X2_read_37 τ n x0 x2 x3 G) K) (hc : ∀ (y2 : Int32) (y3 : Int32) (G : gG) (H : Heap) (locs : List Loc) (ls : Array Slot), gHw X τ G H locs → lv_has ls 7 [(0, .ref x0), (2, .int y2), (3, .int y3)] → K (.inl (y2, y3, G)) → W p l e rm_X2_read s m args below meth c H locs 0 0 Q (F0 m 37 ls [])) (hx0 : ∀ (y2 : Int32) (G : gG) (H : Heap) (locs : List Loc) (ls : Array Slot), gHw X τ G H locs → lv_has ls 7 [(0, .ref x0), (2, .int y2)] → K (.inr (y2, G)) → W p l e rm_X2_read s m args below meth c H locs 0 0 Q (F0 m 138 ls [])) : W p l e rm_X2_read s m args below meth c H locs 0 0 Q (F0 m 37 ls []) := by
  unfold b_X2_read_37 at hok
  refine lv_iload_n fx.1 fx.2.1 dX2_read_37 rfl (lv_at hl 2 rfl) ?_
  refine lv_bipush (v := 12) fx.1 fx.2.1 dX2_read_38 (by decide) ?_
  refine g_icmp_ge (tgt := 138) fx dX2_read_40 (by decide) hok (fun hok => ?_) (fun hok => ?_)
  · exact hx0 x2 G _ _ _  hw (lv_sub hl [0, 1] rfl) (gOk_some hok)
  · refine lv_iload_n fx.1 fx.2.1 dX2_read_43 rfl (lv_at hl 1 rfl) ?_
    refine g_if_eq (tgt := 138) fx dX2_read_44 (by decide) hok (fun hok => ?_) (fun hok => ?_)
    · exact hx0 x2 G _ _ _  hw (lv_sub hl [0, 1] rfl) (gOk_some hok)
    · refine lv_aload_n fx.1 fx.2.1 dX2_read_47 rfl (lv_at hl 0 rfl) ?_
      refine g_getr fx hw h0 lf_RX2_9 rfl dX2_read_48 hok (fun a8 h_a8 hok => ?_)
      refine g_ldcS fx hS gt_RX2_31 dX2_read_51 (fun w9 h_w9 => ?_)
      obtain ⟨v10, G11, hf, hok⟩ := gOk_bind2 hok
      refine g_callV0 (κ := 7) fx hw (c_X7_takeWord l X τ n hS a8 s_fail G h_a8 h_w9 hf) lv_RX2_33 ⟨rfl, rfl⟩ rfl rfl h_a8 rfl hl.1 rfl ⟨Nat.le_of_ble_eq_true rfl, Nat.le_of_ble_eq_true rfl⟩ (Nat.le_of_ble_eq_true rfl) ⟨Nat.le_of_ble_eq_true rfl, Nat.le_of_ble_eq_true rfl⟩ dX2_read_53 (fun H locs hw => ?_)
      refine lv_istore (lv' := [(4, .int v10), (0, .ref x0), (2, .int x2), (3, .int x3)]) fx.1 fx.2.1 dX2_read_56 hl (by decide) rfl (fun ls hl => ?_)
      refine lv_iload fx.1 fx.2.1 dX2_read_58 (lv_at hl 0 rfl) ?_
      refine g_if_eq (tgt := 67) fx dX2_read_60 (by decide) hok (fun hok => ?_) (fun hok => ?_)
      · refine lv_aload_n fx.1 fx.2.1 dX2_read_67 rfl (lv_at hl 1 rfl) ?_
        obtain ⟨v12, G13, hf, hok⟩ := gOk_bind2 hok
        refine g_callV0 (κ := 2) fx hw (c_X2_takeKind l X τ n hS x0 G11 h0 hf) lv_RX2_37 ⟨rfl, rfl⟩ rfl rfl h0 rfl hl.1 rfl ⟨Nat.le_of_ble_eq_true rfl, Nat.le_of_ble_eq_true rfl⟩ (Nat.le_of_ble_eq_true rfl) ⟨Nat.le_of_ble_eq_true rfl, Nat.le_of_ble_eq_true rfl⟩ dX2_read_68 (fun H locs hw => ?_)
        exact w_X2_read_71 fx hS n x0 x3 v10 v12 h0  hw (lv_sub hl [1, 3, 0] rfl) hok hc hx0
      · refine lv_iconst (v := 0) fx.1 fx.2.1 dX2_read_63 (by decide) ?_
        refine lv_goto (tgt := 71) fx.1 fx.2.1 dX2_read_64 (by decide) ?_
        exact w_X2_read_71 fx hS n x0 x3 v10 (0 : Int32) h0  hw (lv_sub hl [1, 3, 0] rfl) hok hc hx0
theorem w_l_X2_read_37 {X : gX} {τ : gτ} {p : Program} {l : Launch} {e : Env} {s : State} {m : MethodId} {args : Array Value} {below : List Frame} {meth : Method} {c : Code} (fx : gFx X p s m args meth c cX2_read 7 RX2) (hS : gS0 l X) (n : Nat) (x0 : Nat) (h0 : gK τ x0 2) {Q : State → Prop} {K : ((Int32 × gG)) → Prop} (hx0 : ∀ (y2 : Int32) (G : gG) (H : Heap) (locs : List Loc) (ls : Array Slot), gHw X τ G H locs → lv_has ls 7 [(0, .ref x0), (2, .int y2)] → K (y2, G) → W p l e rm_X2_read s m args below meth c H locs 0 0 Q (F0 m 138 ls [])) : ∀ (k : Nat) (x2 : Int32) (x3 : Int32) (G : gG) (H : Heap) (locs : List Loc) (ls : Array Slot), gHw X τ G H locs → lv_has ls 7 [(0, .ref x0), (2, .int x2), (3, .int x3)] → gOk (gIter (fun (q : Int32 × Int32 × gG) => b_X2_read_37 τ n x0 q.1 q.2.1 q.2.2) k (x2, x3, G)) K → W p l e rm_X2_read s m args below meth c H locs 0 0 Q (F0 m 37 ls []) := by
  intro k
  induction k with
  | zero =>
    intro x2 x3 G H locs ls hw hl hok
    exact gOk_iter0 hok
  | succ k hc =>
    intro x2 x3 G H locs ls hw hl hok
    exact w_b_X2_read_37 fx hS n x0 x2 x3 h0 hw hl (gOk_iter hok) hc hx0
set_option maxHeartbeats 4000000 in
set_option maxRecDepth 100000 in
theorem w_X2_read_149 {X : gX} {τ : gτ} {p : Program} {l : Launch} {e : Env} {s : State} {m : MethodId} {args : Array Value} {below : List Frame} {meth : Method} {c : Code} (fx : gFx X p s m args meth c cX2_read 7 RX2) (hS : gS0 l X) (n : Nat) (x0 : Nat)  (h0 : gK τ x0 2)  (hr : meth.sig.returnType = (some .boolean)) {r : Int32} {G' : gG} {G : gG} {H : Heap} {locs : List Loc} {ls : Array Slot} (hw : gHw X τ G H locs) (hl : lv_has ls 7 [(0, .ref x0)]) (hok : gOk (k_X2_read_149 τ n x0  G) (fun q => q = (r, G')))  : W p l e rm_X2_read s m args below meth c H locs 0 0 (MQ below (gQ X τ (some (.int r)) G') args s 0 0 (gFree X)) (F0 m 149 ls []) := by
  unfold k_X2_read_149 at hok
  refine lv_aload_n fx.1 fx.2.1 dX2_read_149 rfl (lv_at hl 0 rfl) ?_
  refine g_getr fx hw h0 lf_RX2_9 rfl dX2_read_150 hok (fun a30 h_a30 hok => ?_)
  obtain ⟨v31, hf, hok⟩ := gOk_bind hok
  refine g_callV0 (κ := 7) fx hw (c_X7_isRight l X τ a30 G h_a30 hf) lv_RX2_61 ⟨rfl, rfl⟩ rfl rfl h_a30 rfl hl.1 rfl ⟨Nat.le_of_ble_eq_true rfl, Nat.le_of_ble_eq_true rfl⟩ (Nat.le_of_ble_eq_true rfl) ⟨Nat.le_of_ble_eq_true rfl, Nat.le_of_ble_eq_true rfl⟩ dX2_read_153 (fun H locs hw => ?_)
  obtain ⟨hz, hok⟩ := gOk_chk hok
  cases gOk_some hok
  exact g_zret fx hw hr hz dX2_read_156
set_option maxHeartbeats 4000000 in
set_option maxRecDepth 100000 in
theorem w_X2_read_138 {X : gX} {τ : gτ} {p : Program} {l : Launch} {e : Env} {s : State} {m : MethodId} {args : Array Value} {below : List Frame} {meth : Method} {c : Code} (fx : gFx X p s m args meth c cX2_read 7 RX2) (hS : gS0 l X) (n : Nat) (x0 : Nat) (x2 : Int32)  (h0 : gK τ x0 2)  (hr : meth.sig.returnType = (some .boolean)) {r : Int32} {G' : gG} {G : gG} {H : Heap} {locs : List Loc} {ls : Array Slot} (hw : gHw X τ G H locs) (hl : lv_has ls 7 [(0, .ref x0), (2, .int x2)]) (hok : gOk (k_X2_read_138 τ n x0 x2  G) (fun q => q = (r, G')))  : W p l e rm_X2_read s m args below meth c H locs 0 0 (MQ below (gQ X τ (some (.int r)) G') args s 0 0 (gFree X)) (F0 m 138 ls []) := by
  unfold k_X2_read_138 at hok
  refine lv_iload_n fx.1 fx.2.1 dX2_read_138 rfl (lv_at hl 1 rfl) ?_
  refine g_if_eq (tgt := 149) fx dX2_read_139 (by decide) hok (fun hok => ?_) (fun hok => ?_)
  · exact w_X2_read_149 fx hS n x0  h0  hr hw (lv_sub hl [0] rfl) hok
  · refine lv_aload_n fx.1 fx.2.1 dX2_read_142 rfl (lv_at hl 0 rfl) ?_
    refine g_getr fx hw h0 lf_RX2_9 rfl dX2_read_143 hok (fun a32 h_a32 hok => ?_)
    obtain ⟨G33, hf, hok⟩ := gOk_bind hok
    refine g_callV0 (κ := 7) fx hw (c_X7_refuse l X τ a32 G h_a32 hf) lv_RX2_58 ⟨rfl, rfl⟩ rfl rfl h_a32 rfl hl.1 rfl ⟨Nat.le_of_ble_eq_true rfl, Nat.le_of_ble_eq_true rfl⟩ (Nat.le_of_ble_eq_true rfl) ⟨Nat.le_of_ble_eq_true rfl, Nat.le_of_ble_eq_true rfl⟩ dX2_read_146 (fun H locs hw => ?_)
    exact w_X2_read_149 fx hS n x0  h0  hr hw (lv_sub hl [0] rfl) hok
set_option maxHeartbeats 4000000 in
set_option maxRecDepth 100000 in
theorem w_X2_read_34 {X : gX} {τ : gτ} {p : Program} {l : Launch} {e : Env} {s : State} {m : MethodId} {args : Array Value} {below : List Frame} {meth : Method} {c : Code} (fx : gFx X p s m args meth c cX2_read 7 RX2) (hS : gS0 l X) (n : Nat) (x0 : Nat) (s0 : Int32) (h0 : gK τ x0 2)  (hr : meth.sig.returnType = (some .boolean)) {r : Int32} {G' : gG} {G : gG} {H : Heap} {locs : List Loc} {ls : Array Slot} (hw : gHw X τ G H locs) (hl : lv_has ls 7 [(0, .ref x0)]) (hok : gOk (k_X2_read_34 τ n x0 s0 G) (fun q => q = (r, G')))  : W p l e rm_X2_read s m args below meth c H locs 0 0 (MQ below (gQ X τ (some (.int r)) G') args s 0 0 (gFree X)) (F0 m 34 ls [.int s0]) := by
  unfold k_X2_read_34 at hok
  refine lv_istore_n (lv' := [(2, .int s0), (0, .ref x0)]) fx.1 fx.2.1 dX2_read_34 rfl hl (by decide) rfl (fun ls hl => ?_)
  refine lv_iconst (v := 0) fx.1 fx.2.1 dX2_read_35 (by decide) ?_
  refine lv_istore_n (lv' := [(3, .int (0 : Int32)), (2, .int s0), (0, .ref x0)]) fx.1 fx.2.1 dX2_read_36 rfl hl (by decide) rfl (fun ls hl => ?_)
  refine w_l_X2_read_37 fx hS n x0 h0 ?_ n s0 (0 : Int32) G _ _ _  hw (lv_sub hl [2, 1, 0] rfl) (gOk_bindK hok)
  intro z28 G29 H locs ls hw hl hok
  have hok : gOk (ρ := Int32 × gG) (k_X2_read_138 τ n x0 z28  G29) _ := hok
  exact w_X2_read_138 fx hS n x0 z28  h0  hr hw (lv_sub hl [0, 1] rfl) hok
set_option maxHeartbeats 4000000 in
set_option maxRecDepth 100000 in
theorem c_X2_read (l : Launch) (X : gX) (τ : gτ) (n : Nat) (hS : gS0 l X) (x0 : Nat) (x1 : Nat) (G : gG) (h0 : gK τ x0 2) (h1 : gK τ x1 1) {r : Int32} {G' : gG} (h : f_X2_read τ n x0 x1 G = some (r, G')) : gM l X τ yX2_read cX2_read 7 (some .boolean) rm_X2_read [.ref x0, .ref x1] G (some (.int r)) G' := by
  refine g_body (by decide +kernel) (Nat.le_of_ble_eq_true rfl) ?_
  intro p e s m args below meth c ls fx hr hw hl
  have fx : gFx X p s m args meth c cX2_read 7 RX2 := fx
  have hl : lv_has ls 7 [(0, .ref x0), (1, .ref x1)] := hl
  have hok : gOk (f_X2_read τ n x0 x1 G) (fun q => q = (r, G')) := ⟨_, h, rfl⟩
  unfold f_X2_read at hok
  show W p l e rm_X2_read s m args below meth c s.heap [] 0 0 (MQ below (gQ X τ (some (.int r)) G') args s 0 0 (gFree X)) _
  refine lv_aload_n fx.1 fx.2.1 dX2_read_0 rfl (lv_at hl 0 rfl) ?_
  refine lv_aload_n fx.1 fx.2.1 dX2_read_1 rfl (lv_at hl 1 rfl) ?_
  refine g_putr fx hw h0 lp_RX2_15 rfl rfl h1 dX2_read_2 hok (fun G1 H locs hw hok => ?_)
  refine lv_aload_n fx.1 fx.2.1 dX2_read_5 rfl (lv_at hl 0 rfl) ?_
  refine g_getr fx hw h0 lf_RX2_15 rfl dX2_read_6 hok (fun a2 h_a2 hok => ?_)
  obtain ⟨G3, hf, hok⟩ := gOk_bind hok
  refine g_callV0 (κ := 1) fx hw (c_X1_beginText l X τ a2 G1 h_a2 hf) lv_RX2_19 ⟨rfl, rfl⟩ rfl rfl h_a2 rfl hl.1 rfl ⟨Nat.le_of_ble_eq_true rfl, Nat.le_of_ble_eq_true rfl⟩ (Nat.le_of_ble_eq_true rfl) ⟨Nat.le_of_ble_eq_true rfl, Nat.le_of_ble_eq_true rfl⟩ dX2_read_9 (fun H locs hw => ?_)
  refine lv_aload_n fx.1 fx.2.1 dX2_read_12 rfl (lv_at hl 0 rfl) ?_
  refine g_getr fx hw h0 lf_RX2_9 rfl dX2_read_13 hok (fun a4 h_a4 hok => ?_)
  obtain ⟨G5, hf, hok⟩ := gOk_bind hok
  refine g_callV0 (κ := 7) fx hw (c_X7_beginText l X τ n a4 G3 h_a4 hf) lv_RX2_24 ⟨rfl, rfl⟩ rfl rfl h_a4 rfl hl.1 rfl ⟨Nat.le_of_ble_eq_true rfl, Nat.le_of_ble_eq_true rfl⟩ (Nat.le_of_ble_eq_true rfl) ⟨Nat.le_of_ble_eq_true rfl, Nat.le_of_ble_eq_true rfl⟩ dX2_read_16 (fun H locs hw => ?_)
  refine lv_aload_n fx.1 fx.2.1 dX2_read_19 rfl (lv_at hl 0 rfl) ?_
  refine g_getr fx hw h0 lf_RX2_9 rfl dX2_read_20 hok (fun a6 h_a6 hok => ?_)
  obtain ⟨v7, hf, hok⟩ := gOk_bind hok
  refine g_callV0 (κ := 7) fx hw (c_X7_isAtEnd l X τ a6 G5 h_a6 hf) lv_RX2_27 ⟨rfl, rfl⟩ rfl rfl h_a6 rfl hl.1 rfl ⟨Nat.le_of_ble_eq_true rfl, Nat.le_of_ble_eq_true rfl⟩ (Nat.le_of_ble_eq_true rfl) ⟨Nat.le_of_ble_eq_true rfl, Nat.le_of_ble_eq_true rfl⟩ dX2_read_23 (fun H locs hw => ?_)
  refine g_if_ne (tgt := 33) fx dX2_read_26 (by decide) hok (fun hok => ?_) (fun hok => ?_)
  · refine lv_iconst (v := 1) fx.1 fx.2.1 dX2_read_29 (by decide) ?_
    refine lv_goto (tgt := 34) fx.1 fx.2.1 dX2_read_30 (by decide) ?_
    exact w_X2_read_34 fx hS n x0 (1 : Int32) h0  hr hw (lv_sub hl [0] rfl) hok
  · refine lv_iconst (v := 0) fx.1 fx.2.1 dX2_read_33 (by decide) ?_
    exact w_X2_read_34 fx hS n x0 (0 : Int32) h0  hr hw (lv_sub hl [0] rfl) hok
theorem dX9_become_0 : decode cX9_become 0 = .ok (.aload_n 0, 1) := by decide +kernel
theorem dX9_become_1 : decode cX9_become 1 = .ok (.aload_n 1, 1) := by decide +kernel
theorem dX9_become_2 : decode cX9_become 2 = .ok (.getfield 7, 3) := by decide +kernel
theorem dX9_become_5 : decode cX9_become 5 = .ok (.putfield 7, 3) := by decide +kernel
theorem dX9_become_8 : decode cX9_become 8 = .ok (.aload_n 0, 1) := by decide +kernel
theorem dX9_become_9 : decode cX9_become 9 = .ok (.aload_n 1, 1) := by decide +kernel
theorem dX9_become_10 : decode cX9_become 10 = .ok (.getfield 13, 3) := by decide +kernel
theorem dX9_become_13 : decode cX9_become 13 = .ok (.putfield 13, 3) := by decide +kernel
theorem dX9_become_16 : decode cX9_become 16 = .ok (.aload_n 0, 1) := by decide +kernel
theorem dX9_become_17 : decode cX9_become 17 = .ok (.aload_n 1, 1) := by decide +kernel
theorem dX9_become_18 : decode cX9_become 18 = .ok (.getfield 16, 3) := by decide +kernel
theorem dX9_become_21 : decode cX9_become 21 = .ok (.putfield 16, 3) := by decide +kernel
theorem dX9_become_24 : decode cX9_become 24 = .ok (.aload_n 0, 1) := by decide +kernel
theorem dX9_become_25 : decode cX9_become 25 = .ok (.aload_n 1, 1) := by decide +kernel
theorem dX9_become_26 : decode cX9_become 26 = .ok (.getfield 19, 3) := by decide +kernel
theorem dX9_become_29 : decode cX9_become 29 = .ok (.putfield 19, 3) := by decide +kernel
theorem dX9_become_32 : decode cX9_become 32 = .ok (.return_, 1) := by decide +kernel
theorem lf_RX9_7 : gLf RX9 7 9 0 := ⟨(RX9, TX9, 4), rfl, by decide, wA_t (wt1 (List.mem_of_getElem? (i := 133) (by decide +kernel))) (by decide +kernel), rfl⟩
theorem lp_RX9_7 : gLp RX9 7 9 0 := ⟨(RX9, TX9, 4), rfl, by decide, wA_t (wt1 (List.mem_of_getElem? (i := 133) (by decide +kernel))) (by decide +kernel), rfl, rfl⟩
theorem lf_RX9_13 : gLf RX9 13 9 1 := ⟨(RX9, TX9, 4), rfl, by decide, wA_t (wt1 (List.mem_of_getElem? (i := 137) (by decide +kernel))) (by decide +kernel), rfl⟩
theorem lp_RX9_13 : gLp RX9 13 9 1 := ⟨(RX9, TX9, 4), rfl, by decide, wA_t (wt1 (List.mem_of_getElem? (i := 137) (by decide +kernel))) (by decide +kernel), rfl, rfl⟩
theorem lf_RX9_16 : gLf RX9 16 9 2 := ⟨(RX9, TX9, 4), rfl, by decide, wA_t (wt1 (List.mem_of_getElem? (i := 140) (by decide +kernel))) (by decide +kernel), rfl⟩
theorem lp_RX9_16 : gLp RX9 16 9 2 := ⟨(RX9, TX9, 4), rfl, by decide, wA_t (wt1 (List.mem_of_getElem? (i := 140) (by decide +kernel))) (by decide +kernel), rfl, rfl⟩
theorem lf_RX9_19 : gLf RX9 19 9 3 := ⟨(RX9, TX9, 4), rfl, by decide, wA_t (wt1 (List.mem_of_getElem? (i := 144) (by decide +kernel))) (by decide +kernel), rfl⟩
theorem lp_RX9_19 : gLp RX9 19 9 3 := ⟨(RX9, TX9, 4), rfl, by decide, wA_t (wt1 (List.mem_of_getElem? (i := 144) (by decide +kernel))) (by decide +kernel), rfl, rfl⟩
def rm_X9_become : Room := { frames := 0, cells := 0, slots := 0, locals := 0 }
def f_X9_become (x0 : Nat) (x1 : Nat) (G : gG) : Option (gG) :=
  gLet (gsi G 9 0 x0 (gi G 9 0 x1)) fun G1 =>
  gLet (gsi G1 9 1 x0 (gi G1 9 1 x1)) fun G2 =>
  gLet (gsi G2 9 2 x0 (gi G2 9 2 x1)) fun G3 =>
  gLet (gsi G3 9 3 x0 (gi G3 9 3 x1)) fun G4 =>
  some G4
set_option maxHeartbeats 4000000 in
set_option maxRecDepth 100000 in
theorem c_X9_become (l : Launch) (X : gX) (τ : gτ) (x0 : Nat) (x1 : Nat) (G : gG) (h0 : gK τ x0 9) (h1 : gK τ x1 9) {G' : gG} (h : f_X9_become x0 x1 G = some G') : gM l X τ yX9_become cX9_become 2 none rm_X9_become [.ref x0, .ref x1] G none G' := by
  refine g_body (by decide +kernel) (Nat.le_of_ble_eq_true rfl) ?_
  intro p e s m args below meth c ls fx hr hw hl
  have fx : gFx X p s m args meth c cX9_become 2 RX9 := fx
  have hl : lv_has ls 2 [(0, .ref x0), (1, .ref x1)] := hl
  have hok : gOk (f_X9_become x0 x1 G) (fun q => q = G') := ⟨_, h, rfl⟩
  unfold f_X9_become at hok
  show W p l e rm_X9_become s m args below meth c s.heap [] 0 0 (MQ below (gQ X τ none G') args s 0 0 (gFree X)) _
  refine lv_aload_n fx.1 fx.2.1 dX9_become_0 rfl (lv_at hl 0 rfl) ?_
  refine lv_aload_n fx.1 fx.2.1 dX9_become_1 rfl (lv_at hl 1 rfl) ?_
  refine g_geti fx hw h1 lf_RX9_7 rfl dX9_become_2 ?_
  refine g_puti fx hw h0 lp_RX9_7 rfl rfl dX9_become_5 hok (fun G1 H locs hw hok => ?_)
  refine lv_aload_n fx.1 fx.2.1 dX9_become_8 rfl (lv_at hl 0 rfl) ?_
  refine lv_aload_n fx.1 fx.2.1 dX9_become_9 rfl (lv_at hl 1 rfl) ?_
  refine g_geti fx hw h1 lf_RX9_13 rfl dX9_become_10 ?_
  refine g_puti fx hw h0 lp_RX9_13 rfl rfl dX9_become_13 hok (fun G2 H locs hw hok => ?_)
  refine lv_aload_n fx.1 fx.2.1 dX9_become_16 rfl (lv_at hl 0 rfl) ?_
  refine lv_aload_n fx.1 fx.2.1 dX9_become_17 rfl (lv_at hl 1 rfl) ?_
  refine g_geti fx hw h1 lf_RX9_16 rfl dX9_become_18 ?_
  refine g_puti fx hw h0 lp_RX9_16 rfl rfl dX9_become_21 hok (fun G3 H locs hw hok => ?_)
  refine lv_aload_n fx.1 fx.2.1 dX9_become_24 rfl (lv_at hl 0 rfl) ?_
  refine lv_aload_n fx.1 fx.2.1 dX9_become_25 rfl (lv_at hl 1 rfl) ?_
  refine g_geti fx hw h1 lf_RX9_19 rfl dX9_become_26 ?_
  refine g_puti fx hw h0 lp_RX9_19 rfl rfl dX9_become_29 hok (fun G4 H locs hw hok => ?_)
  cases gOk_some hok
  exact g_vret fx hw hr dX9_become_32
theorem dX5_become_0 : decode cX5_become 0 = .ok (.aload_n 0, 1) := by decide +kernel
theorem dX5_become_1 : decode cX5_become 1 = .ok (.aload_n 1, 1) := by decide +kernel
theorem dX5_become_2 : decode cX5_become 2 = .ok (.getfield 9, 3) := by decide +kernel
theorem dX5_become_5 : decode cX5_become 5 = .ok (.putfield 9, 3) := by decide +kernel
theorem dX5_become_8 : decode cX5_become 8 = .ok (.aload_n 0, 1) := by decide +kernel
theorem dX5_become_9 : decode cX5_become 9 = .ok (.aload_n 1, 1) := by decide +kernel
theorem dX5_become_10 : decode cX5_become 10 = .ok (.getfield 15, 3) := by decide +kernel
theorem dX5_become_13 : decode cX5_become 13 = .ok (.putfield 15, 3) := by decide +kernel
theorem dX5_become_16 : decode cX5_become 16 = .ok (.aload_n 0, 1) := by decide +kernel
theorem dX5_become_17 : decode cX5_become 17 = .ok (.aload_n 1, 1) := by decide +kernel
theorem dX5_become_18 : decode cX5_become 18 = .ok (.getfield 18, 3) := by decide +kernel
theorem dX5_become_21 : decode cX5_become 21 = .ok (.putfield 18, 3) := by decide +kernel
theorem dX5_become_24 : decode cX5_become 24 = .ok (.aload_n 0, 1) := by decide +kernel
theorem dX5_become_25 : decode cX5_become 25 = .ok (.aload_n 1, 1) := by decide +kernel
theorem dX5_become_26 : decode cX5_become 26 = .ok (.getfield 21, 3) := by decide +kernel
theorem dX5_become_29 : decode cX5_become 29 = .ok (.putfield 21, 3) := by decide +kernel
theorem dX5_become_32 : decode cX5_become 32 = .ok (.aload_n 0, 1) := by decide +kernel
theorem dX5_become_33 : decode cX5_become 33 = .ok (.aload_n 1, 1) := by decide +kernel
theorem dX5_become_34 : decode cX5_become 34 = .ok (.getfield 24, 3) := by decide +kernel
theorem dX5_become_37 : decode cX5_become 37 = .ok (.putfield 24, 3) := by decide +kernel
theorem dX5_become_40 : decode cX5_become 40 = .ok (.aload_n 0, 1) := by decide +kernel
theorem dX5_become_41 : decode cX5_become 41 = .ok (.aload_n 1, 1) := by decide +kernel
theorem dX5_become_42 : decode cX5_become 42 = .ok (.getfield 27, 3) := by decide +kernel
theorem dX5_become_45 : decode cX5_become 45 = .ok (.putfield 27, 3) := by decide +kernel
theorem dX5_become_48 : decode cX5_become 48 = .ok (.aload_n 0, 1) := by decide +kernel
theorem dX5_become_49 : decode cX5_become 49 = .ok (.aload_n 1, 1) := by decide +kernel
theorem dX5_become_50 : decode cX5_become 50 = .ok (.getfield 30, 3) := by decide +kernel
theorem dX5_become_53 : decode cX5_become 53 = .ok (.putfield 30, 3) := by decide +kernel
theorem dX5_become_56 : decode cX5_become 56 = .ok (.aload_n 0, 1) := by decide +kernel
theorem dX5_become_57 : decode cX5_become 57 = .ok (.aload_n 1, 1) := by decide +kernel
theorem dX5_become_58 : decode cX5_become 58 = .ok (.getfield 33, 3) := by decide +kernel
theorem dX5_become_61 : decode cX5_become 61 = .ok (.putfield 33, 3) := by decide +kernel
theorem dX5_become_64 : decode cX5_become 64 = .ok (.aload_n 0, 1) := by decide +kernel
theorem dX5_become_65 : decode cX5_become 65 = .ok (.aload_n 1, 1) := by decide +kernel
theorem dX5_become_66 : decode cX5_become 66 = .ok (.getfield 36, 3) := by decide +kernel
theorem dX5_become_69 : decode cX5_become 69 = .ok (.putfield 36, 3) := by decide +kernel
theorem dX5_become_72 : decode cX5_become 72 = .ok (.aload_n 0, 1) := by decide +kernel
theorem dX5_become_73 : decode cX5_become 73 = .ok (.aload_n 1, 1) := by decide +kernel
theorem dX5_become_74 : decode cX5_become 74 = .ok (.getfield 40, 3) := by decide +kernel
theorem dX5_become_77 : decode cX5_become 77 = .ok (.putfield 40, 3) := by decide +kernel
theorem dX5_become_80 : decode cX5_become 80 = .ok (.return_, 1) := by decide +kernel
theorem lf_RX5_9 : gLf RX5 9 5 0 := ⟨(RX5, TX5, 10), rfl, by decide, wA_t (wt1 (List.mem_of_getElem? (i := 162) (by decide +kernel))) (by decide +kernel), rfl⟩
theorem lp_RX5_9 : gLp RX5 9 5 0 := ⟨(RX5, TX5, 10), rfl, by decide, wA_t (wt1 (List.mem_of_getElem? (i := 162) (by decide +kernel))) (by decide +kernel), rfl, rfl⟩
theorem lf_RX5_15 : gLf RX5 15 5 1 := ⟨(RX5, TX5, 10), rfl, by decide, wA_t (wt1 (List.mem_of_getElem? (i := 166) (by decide +kernel))) (by decide +kernel), rfl⟩
theorem lp_RX5_15 : gLp RX5 15 5 1 := ⟨(RX5, TX5, 10), rfl, by decide, wA_t (wt1 (List.mem_of_getElem? (i := 166) (by decide +kernel))) (by decide +kernel), rfl, rfl⟩
theorem lf_RX5_18 : gLf RX5 18 5 2 := ⟨(RX5, TX5, 10), rfl, by decide, wA_t (wt1 (List.mem_of_getElem? (i := 170) (by decide +kernel))) (by decide +kernel), rfl⟩
theorem lp_RX5_18 : gLp RX5 18 5 2 := ⟨(RX5, TX5, 10), rfl, by decide, wA_t (wt1 (List.mem_of_getElem? (i := 170) (by decide +kernel))) (by decide +kernel), rfl, rfl⟩
theorem lf_RX5_21 : gLf RX5 21 5 3 := ⟨(RX5, TX5, 10), rfl, by decide, wA_t (wt1 (List.mem_of_getElem? (i := 174) (by decide +kernel))) (by decide +kernel), rfl⟩
theorem lp_RX5_21 : gLp RX5 21 5 3 := ⟨(RX5, TX5, 10), rfl, by decide, wA_t (wt1 (List.mem_of_getElem? (i := 174) (by decide +kernel))) (by decide +kernel), rfl, rfl⟩
theorem lf_RX5_24 : gLf RX5 24 5 4 := ⟨(RX5, TX5, 10), rfl, by decide, wA_t (wt1 (List.mem_of_getElem? (i := 178) (by decide +kernel))) (by decide +kernel), rfl⟩
theorem lp_RX5_24 : gLp RX5 24 5 4 := ⟨(RX5, TX5, 10), rfl, by decide, wA_t (wt1 (List.mem_of_getElem? (i := 178) (by decide +kernel))) (by decide +kernel), rfl, rfl⟩
theorem lf_RX5_27 : gLf RX5 27 5 5 := ⟨(RX5, TX5, 10), rfl, by decide, wA_t (wt1 (List.mem_of_getElem? (i := 182) (by decide +kernel))) (by decide +kernel), rfl⟩
theorem lp_RX5_27 : gLp RX5 27 5 5 := ⟨(RX5, TX5, 10), rfl, by decide, wA_t (wt1 (List.mem_of_getElem? (i := 182) (by decide +kernel))) (by decide +kernel), rfl, rfl⟩
theorem lf_RX5_30 : gLf RX5 30 5 6 := ⟨(RX5, TX5, 10), rfl, by decide, wA_t (wt1 (List.mem_of_getElem? (i := 186) (by decide +kernel))) (by decide +kernel), rfl⟩
theorem lp_RX5_30 : gLp RX5 30 5 6 := ⟨(RX5, TX5, 10), rfl, by decide, wA_t (wt1 (List.mem_of_getElem? (i := 186) (by decide +kernel))) (by decide +kernel), rfl, rfl⟩
theorem lf_RX5_33 : gLf RX5 33 5 7 := ⟨(RX5, TX5, 10), rfl, by decide, wA_t (wt1 (List.mem_of_getElem? (i := 190) (by decide +kernel))) (by decide +kernel), rfl⟩
theorem lp_RX5_33 : gLp RX5 33 5 7 := ⟨(RX5, TX5, 10), rfl, by decide, wA_t (wt1 (List.mem_of_getElem? (i := 190) (by decide +kernel))) (by decide +kernel), rfl, rfl⟩
theorem lf_RX5_36 : gLf RX5 36 5 8 := ⟨(RX5, TX5, 10), rfl, by decide, wA_t (wt1 (List.mem_of_getElem? (i := 196) (by decide +kernel))) (by decide +kernel), rfl⟩
theorem lp_RX5_36 : gLp RX5 36 5 8 := ⟨(RX5, TX5, 10), rfl, by decide, wA_t (wt1 (List.mem_of_getElem? (i := 196) (by decide +kernel))) (by decide +kernel), rfl, rfl⟩
theorem lf_RX5_40 : gLf RX5 40 5 9 := ⟨(RX5, TX5, 10), rfl, by decide, wA_t (wt1 (List.mem_of_getElem? (i := 201) (by decide +kernel))) (by decide +kernel), rfl⟩
theorem lp_RX5_40 : gLp RX5 40 5 9 := ⟨(RX5, TX5, 10), rfl, by decide, wA_t (wt1 (List.mem_of_getElem? (i := 201) (by decide +kernel))) (by decide +kernel), rfl, rfl⟩
def rm_X5_become : Room := { frames := 0, cells := 0, slots := 0, locals := 0 }
def f_X5_become (x0 : Nat) (x1 : Nat) (G : gG) : Option (gG) :=
  gLet (gsi G 5 0 x0 (gi G 5 0 x1)) fun G1 =>
  gLet (gsi G1 5 1 x0 (gi G1 5 1 x1)) fun G2 =>
  gLet (gsi G2 5 2 x0 (gi G2 5 2 x1)) fun G3 =>
  gLet (gsi G3 5 3 x0 (gi G3 5 3 x1)) fun G4 =>
  gLet (gsi G4 5 4 x0 (gi G4 5 4 x1)) fun G5 =>
  gLet (gsi G5 5 5 x0 (gi G5 5 5 x1)) fun G6 =>
  gLet (gsi G6 5 6 x0 (gi G6 5 6 x1)) fun G7 =>
  gLet (gsi G7 5 7 x0 (gi G7 5 7 x1)) fun G8 =>
  gchk ((gi G8 5 8 x1) = 0 ∨ (gi G8 5 8 x1) = 1) <|
  gLet (gsi G8 5 8 x0 (gi G8 5 8 x1)) fun G9 =>
  gchk ((gi G9 5 9 x1) = 0 ∨ (gi G9 5 9 x1) = 1) <|
  gLet (gsi G9 5 9 x0 (gi G9 5 9 x1)) fun G10 =>
  some G10
set_option maxHeartbeats 4000000 in
set_option maxRecDepth 100000 in
theorem c_X5_become (l : Launch) (X : gX) (τ : gτ) (x0 : Nat) (x1 : Nat) (G : gG) (h0 : gK τ x0 5) (h1 : gK τ x1 5) {G' : gG} (h : f_X5_become x0 x1 G = some G') : gM l X τ yX5_become cX5_become 2 none rm_X5_become [.ref x0, .ref x1] G none G' := by
  refine g_body (by decide +kernel) (Nat.le_of_ble_eq_true rfl) ?_
  intro p e s m args below meth c ls fx hr hw hl
  have fx : gFx X p s m args meth c cX5_become 2 RX5 := fx
  have hl : lv_has ls 2 [(0, .ref x0), (1, .ref x1)] := hl
  have hok : gOk (f_X5_become x0 x1 G) (fun q => q = G') := ⟨_, h, rfl⟩
  unfold f_X5_become at hok
  show W p l e rm_X5_become s m args below meth c s.heap [] 0 0 (MQ below (gQ X τ none G') args s 0 0 (gFree X)) _
  refine lv_aload_n fx.1 fx.2.1 dX5_become_0 rfl (lv_at hl 0 rfl) ?_
  refine lv_aload_n fx.1 fx.2.1 dX5_become_1 rfl (lv_at hl 1 rfl) ?_
  refine g_geti fx hw h1 lf_RX5_9 rfl dX5_become_2 ?_
  refine g_puti fx hw h0 lp_RX5_9 rfl rfl dX5_become_5 hok (fun G1 H locs hw hok => ?_)
  refine lv_aload_n fx.1 fx.2.1 dX5_become_8 rfl (lv_at hl 0 rfl) ?_
  refine lv_aload_n fx.1 fx.2.1 dX5_become_9 rfl (lv_at hl 1 rfl) ?_
  refine g_geti fx hw h1 lf_RX5_15 rfl dX5_become_10 ?_
  refine g_puti fx hw h0 lp_RX5_15 rfl rfl dX5_become_13 hok (fun G2 H locs hw hok => ?_)
  refine lv_aload_n fx.1 fx.2.1 dX5_become_16 rfl (lv_at hl 0 rfl) ?_
  refine lv_aload_n fx.1 fx.2.1 dX5_become_17 rfl (lv_at hl 1 rfl) ?_
  refine g_geti fx hw h1 lf_RX5_18 rfl dX5_become_18 ?_
  refine g_puti fx hw h0 lp_RX5_18 rfl rfl dX5_become_21 hok (fun G3 H locs hw hok => ?_)
  refine lv_aload_n fx.1 fx.2.1 dX5_become_24 rfl (lv_at hl 0 rfl) ?_
  refine lv_aload_n fx.1 fx.2.1 dX5_become_25 rfl (lv_at hl 1 rfl) ?_
  refine g_geti fx hw h1 lf_RX5_21 rfl dX5_become_26 ?_
  refine g_puti fx hw h0 lp_RX5_21 rfl rfl dX5_become_29 hok (fun G4 H locs hw hok => ?_)
  refine lv_aload_n fx.1 fx.2.1 dX5_become_32 rfl (lv_at hl 0 rfl) ?_
  refine lv_aload_n fx.1 fx.2.1 dX5_become_33 rfl (lv_at hl 1 rfl) ?_
  refine g_geti fx hw h1 lf_RX5_24 rfl dX5_become_34 ?_
  refine g_puti fx hw h0 lp_RX5_24 rfl rfl dX5_become_37 hok (fun G5 H locs hw hok => ?_)
  refine lv_aload_n fx.1 fx.2.1 dX5_become_40 rfl (lv_at hl 0 rfl) ?_
  refine lv_aload_n fx.1 fx.2.1 dX5_become_41 rfl (lv_at hl 1 rfl) ?_
  refine g_geti fx hw h1 lf_RX5_27 rfl dX5_become_42 ?_
  refine g_puti fx hw h0 lp_RX5_27 rfl rfl dX5_become_45 hok (fun G6 H locs hw hok => ?_)
  refine lv_aload_n fx.1 fx.2.1 dX5_become_48 rfl (lv_at hl 0 rfl) ?_
  refine lv_aload_n fx.1 fx.2.1 dX5_become_49 rfl (lv_at hl 1 rfl) ?_
  refine g_geti fx hw h1 lf_RX5_30 rfl dX5_become_50 ?_
  refine g_puti fx hw h0 lp_RX5_30 rfl rfl dX5_become_53 hok (fun G7 H locs hw hok => ?_)
  refine lv_aload_n fx.1 fx.2.1 dX5_become_56 rfl (lv_at hl 0 rfl) ?_
  refine lv_aload_n fx.1 fx.2.1 dX5_become_57 rfl (lv_at hl 1 rfl) ?_
  refine g_geti fx hw h1 lf_RX5_33 rfl dX5_become_58 ?_
  refine g_puti fx hw h0 lp_RX5_33 rfl rfl dX5_become_61 hok (fun G8 H locs hw hok => ?_)
  refine lv_aload_n fx.1 fx.2.1 dX5_become_64 rfl (lv_at hl 0 rfl) ?_
  refine lv_aload_n fx.1 fx.2.1 dX5_become_65 rfl (lv_at hl 1 rfl) ?_
  refine g_geti fx hw h1 lf_RX5_36 rfl dX5_become_66 ?_
  obtain ⟨hz, hok⟩ := gOk_chk hok
  refine g_putz fx hw h0 lp_RX5_36 rfl rfl hz dX5_become_69 hok (fun G9 H locs hw hok => ?_)
  refine lv_aload_n fx.1 fx.2.1 dX5_become_72 rfl (lv_at hl 0 rfl) ?_
  refine lv_aload_n fx.1 fx.2.1 dX5_become_73 rfl (lv_at hl 1 rfl) ?_
  refine g_geti fx hw h1 lf_RX5_40 rfl dX5_become_74 ?_
  obtain ⟨hz, hok⟩ := gOk_chk hok
  refine g_putz fx hw h0 lp_RX5_40 rfl rfl hz dX5_become_77 hok (fun G10 H locs hw hok => ?_)
  cases gOk_some hok
  exact g_vret fx hw hr dX5_become_80
theorem dX4_become_0 : decode cX4_become 0 = .ok (.aload_n 0, 1) := by decide +kernel
theorem dX4_become_1 : decode cX4_become 1 = .ok (.aload_n 1, 1) := by decide +kernel
theorem dX4_become_2 : decode cX4_become 2 = .ok (.getfield 7, 3) := by decide +kernel
theorem dX4_become_5 : decode cX4_become 5 = .ok (.putfield 7, 3) := by decide +kernel
theorem dX4_become_8 : decode cX4_become 8 = .ok (.aload_n 0, 1) := by decide +kernel
theorem dX4_become_9 : decode cX4_become 9 = .ok (.aload_n 1, 1) := by decide +kernel
theorem dX4_become_10 : decode cX4_become 10 = .ok (.getfield 13, 3) := by decide +kernel
theorem dX4_become_13 : decode cX4_become 13 = .ok (.putfield 13, 3) := by decide +kernel
theorem dX4_become_16 : decode cX4_become 16 = .ok (.aload_n 0, 1) := by decide +kernel
theorem dX4_become_17 : decode cX4_become 17 = .ok (.aload_n 1, 1) := by decide +kernel
theorem dX4_become_18 : decode cX4_become 18 = .ok (.getfield 16, 3) := by decide +kernel
theorem dX4_become_21 : decode cX4_become 21 = .ok (.putfield 16, 3) := by decide +kernel
theorem dX4_become_24 : decode cX4_become 24 = .ok (.return_, 1) := by decide +kernel
theorem lf_RX4_7 : gLf RX4 7 4 0 := ⟨(RX4, TX4, 3), rfl, by decide, wA_t (wt1 (List.mem_of_getElem? (i := 231) (by decide +kernel))) (by decide +kernel), rfl⟩
theorem lp_RX4_7 : gLp RX4 7 4 0 := ⟨(RX4, TX4, 3), rfl, by decide, wA_t (wt1 (List.mem_of_getElem? (i := 231) (by decide +kernel))) (by decide +kernel), rfl, rfl⟩
theorem lf_RX4_13 : gLf RX4 13 4 1 := ⟨(RX4, TX4, 3), rfl, by decide, wA_t (wt1 (List.mem_of_getElem? (i := 234) (by decide +kernel))) (by decide +kernel), rfl⟩
theorem lp_RX4_13 : gLp RX4 13 4 1 := ⟨(RX4, TX4, 3), rfl, by decide, wA_t (wt1 (List.mem_of_getElem? (i := 234) (by decide +kernel))) (by decide +kernel), rfl, rfl⟩
theorem lf_RX4_16 : gLf RX4 16 4 2 := ⟨(RX4, TX4, 3), rfl, by decide, wA_t (wt1 (List.mem_of_getElem? (i := 237) (by decide +kernel))) (by decide +kernel), rfl⟩
theorem lp_RX4_16 : gLp RX4 16 4 2 := ⟨(RX4, TX4, 3), rfl, by decide, wA_t (wt1 (List.mem_of_getElem? (i := 237) (by decide +kernel))) (by decide +kernel), rfl, rfl⟩
def rm_X4_become : Room := { frames := 0, cells := 0, slots := 0, locals := 0 }
def f_X4_become (x0 : Nat) (x1 : Nat) (G : gG) : Option (gG) :=
  gLet (gsi G 4 0 x0 (gi G 4 0 x1)) fun G1 =>
  gLet (gsi G1 4 1 x0 (gi G1 4 1 x1)) fun G2 =>
  gLet (gsi G2 4 2 x0 (gi G2 4 2 x1)) fun G3 =>
  some G3
set_option maxHeartbeats 4000000 in
set_option maxRecDepth 100000 in
theorem c_X4_become (l : Launch) (X : gX) (τ : gτ) (x0 : Nat) (x1 : Nat) (G : gG) (h0 : gK τ x0 4) (h1 : gK τ x1 4) {G' : gG} (h : f_X4_become x0 x1 G = some G') : gM l X τ yX4_become cX4_become 2 none rm_X4_become [.ref x0, .ref x1] G none G' := by
  refine g_body (by decide +kernel) (Nat.le_of_ble_eq_true rfl) ?_
  intro p e s m args below meth c ls fx hr hw hl
  have fx : gFx X p s m args meth c cX4_become 2 RX4 := fx
  have hl : lv_has ls 2 [(0, .ref x0), (1, .ref x1)] := hl
  have hok : gOk (f_X4_become x0 x1 G) (fun q => q = G') := ⟨_, h, rfl⟩
  unfold f_X4_become at hok
  show W p l e rm_X4_become s m args below meth c s.heap [] 0 0 (MQ below (gQ X τ none G') args s 0 0 (gFree X)) _
  refine lv_aload_n fx.1 fx.2.1 dX4_become_0 rfl (lv_at hl 0 rfl) ?_
  refine lv_aload_n fx.1 fx.2.1 dX4_become_1 rfl (lv_at hl 1 rfl) ?_
  refine g_geti fx hw h1 lf_RX4_7 rfl dX4_become_2 ?_
  refine g_puti fx hw h0 lp_RX4_7 rfl rfl dX4_become_5 hok (fun G1 H locs hw hok => ?_)
  refine lv_aload_n fx.1 fx.2.1 dX4_become_8 rfl (lv_at hl 0 rfl) ?_
  refine lv_aload_n fx.1 fx.2.1 dX4_become_9 rfl (lv_at hl 1 rfl) ?_
  refine g_geti fx hw h1 lf_RX4_13 rfl dX4_become_10 ?_
  refine g_puti fx hw h0 lp_RX4_13 rfl rfl dX4_become_13 hok (fun G2 H locs hw hok => ?_)
  refine lv_aload_n fx.1 fx.2.1 dX4_become_16 rfl (lv_at hl 0 rfl) ?_
  refine lv_aload_n fx.1 fx.2.1 dX4_become_17 rfl (lv_at hl 1 rfl) ?_
  refine g_geti fx hw h1 lf_RX4_16 rfl dX4_become_18 ?_
  refine g_puti fx hw h0 lp_RX4_16 rfl rfl dX4_become_21 hok (fun G3 H locs hw hok => ?_)
  cases gOk_some hok
  exact g_vret fx hw hr dX4_become_24
theorem dX6_become_0 : decode cX6_become 0 = .ok (.iconst 0, 1) := by decide +kernel
theorem dX6_become_1 : decode cX6_become 1 = .ok (.istore_n 2, 1) := by decide +kernel
theorem dX6_become_2 : decode cX6_become 2 = .ok (.iload_n 2, 1) := by decide +kernel
theorem dX6_become_3 : decode cX6_become 3 = .ok (.aload_n 1, 1) := by decide +kernel
theorem dX6_become_4 : decode cX6_become 4 = .ok (.getfield 43, 3) := by decide +kernel
theorem dX6_become_7 : decode cX6_become 7 = .ok (.if_icmp .ge 24, 3) := by decide +kernel
theorem dX6_become_10 : decode cX6_become 10 = .ok (.aload_n 0, 1) := by decide +kernel
theorem dX6_become_11 : decode cX6_become 11 = .ok (.getfield 11, 3) := by decide +kernel
theorem dX6_become_14 : decode cX6_become 14 = .ok (.iload_n 2, 1) := by decide +kernel
theorem dX6_become_15 : decode cX6_become 15 = .ok (.aaload, 1) := by decide +kernel
theorem dX6_become_16 : decode cX6_become 16 = .ok (.aload_n 1, 1) := by decide +kernel
theorem dX6_become_17 : decode cX6_become 17 = .ok (.getfield 11, 3) := by decide +kernel
theorem dX6_become_20 : decode cX6_become 20 = .ok (.iload_n 2, 1) := by decide +kernel
theorem dX6_become_21 : decode cX6_become 21 = .ok (.aaload, 1) := by decide +kernel
theorem dX6_become_22 : decode cX6_become 22 = .ok (.invokevirtual 46, 3) := by decide +kernel
theorem dX6_become_25 : decode cX6_become 25 = .ok (.iinc 2 1, 3) := by decide +kernel
theorem dX6_become_28 : decode cX6_become 28 = .ok (.goto (-26), 3) := by decide +kernel
theorem dX6_become_31 : decode cX6_become 31 = .ok (.iconst 0, 1) := by decide +kernel
theorem dX6_become_32 : decode cX6_become 32 = .ok (.istore_n 2, 1) := by decide +kernel
theorem dX6_become_33 : decode cX6_become 33 = .ok (.iload_n 2, 1) := by decide +kernel
theorem dX6_become_34 : decode cX6_become 34 = .ok (.aload_n 1, 1) := by decide +kernel
theorem dX6_become_35 : decode cX6_become 35 = .ok (.getfield 50, 3) := by decide +kernel
theorem dX6_become_38 : decode cX6_become 38 = .ok (.if_icmp .ge 24, 3) := by decide +kernel
theorem dX6_become_41 : decode cX6_become 41 = .ok (.aload_n 0, 1) := by decide +kernel
theorem dX6_become_42 : decode cX6_become 42 = .ok (.getfield 19, 3) := by decide +kernel
theorem dX6_become_45 : decode cX6_become 45 = .ok (.iload_n 2, 1) := by decide +kernel
theorem dX6_become_46 : decode cX6_become 46 = .ok (.aaload, 1) := by decide +kernel
theorem dX6_become_47 : decode cX6_become 47 = .ok (.aload_n 1, 1) := by decide +kernel
theorem dX6_become_48 : decode cX6_become 48 = .ok (.getfield 19, 3) := by decide +kernel
theorem dX6_become_51 : decode cX6_become 51 = .ok (.iload_n 2, 1) := by decide +kernel
theorem dX6_become_52 : decode cX6_become 52 = .ok (.aaload, 1) := by decide +kernel
theorem dX6_become_53 : decode cX6_become 53 = .ok (.invokevirtual 53, 3) := by decide +kernel
theorem dX6_become_56 : decode cX6_become 56 = .ok (.iinc 2 1, 3) := by decide +kernel
theorem dX6_become_59 : decode cX6_become 59 = .ok (.goto (-26), 3) := by decide +kernel
theorem dX6_become_62 : decode cX6_become 62 = .ok (.iconst 0, 1) := by decide +kernel
theorem dX6_become_63 : decode cX6_become 63 = .ok (.istore_n 2, 1) := by decide +kernel
theorem dX6_become_64 : decode cX6_become 64 = .ok (.iload_n 2, 1) := by decide +kernel
theorem dX6_become_65 : decode cX6_become 65 = .ok (.aload_n 1, 1) := by decide +kernel
theorem dX6_become_66 : decode cX6_become 66 = .ok (.getfield 56, 3) := by decide +kernel
theorem dX6_become_69 : decode cX6_become 69 = .ok (.if_icmp .ge 24, 3) := by decide +kernel
theorem dX6_become_72 : decode cX6_become 72 = .ok (.aload_n 0, 1) := by decide +kernel
theorem dX6_become_73 : decode cX6_become 73 = .ok (.getfield 25, 3) := by decide +kernel
theorem dX6_become_76 : decode cX6_become 76 = .ok (.iload_n 2, 1) := by decide +kernel
theorem dX6_become_77 : decode cX6_become 77 = .ok (.aaload, 1) := by decide +kernel
theorem dX6_become_78 : decode cX6_become 78 = .ok (.aload_n 1, 1) := by decide +kernel
theorem dX6_become_79 : decode cX6_become 79 = .ok (.getfield 25, 3) := by decide +kernel
theorem dX6_become_82 : decode cX6_become 82 = .ok (.iload_n 2, 1) := by decide +kernel
theorem dX6_become_83 : decode cX6_become 83 = .ok (.aaload, 1) := by decide +kernel
theorem dX6_become_84 : decode cX6_become 84 = .ok (.invokevirtual 59, 3) := by decide +kernel
theorem dX6_become_87 : decode cX6_become 87 = .ok (.iinc 2 1, 3) := by decide +kernel
theorem dX6_become_90 : decode cX6_become 90 = .ok (.goto (-26), 3) := by decide +kernel
theorem dX6_become_93 : decode cX6_become 93 = .ok (.aload_n 0, 1) := by decide +kernel
theorem dX6_become_94 : decode cX6_become 94 = .ok (.getfield 32, 3) := by decide +kernel
theorem dX6_become_97 : decode cX6_become 97 = .ok (.aload_n 1, 1) := by decide +kernel
theorem dX6_become_98 : decode cX6_become 98 = .ok (.getfield 32, 3) := by decide +kernel
theorem dX6_become_101 : decode cX6_become 101 = .ok (.invokevirtual 62, 3) := by decide +kernel
theorem dX6_become_104 : decode cX6_become 104 = .ok (.aload_n 0, 1) := by decide +kernel
theorem dX6_become_105 : decode cX6_become 105 = .ok (.aload_n 1, 1) := by decide +kernel
theorem dX6_become_106 : decode cX6_become 106 = .ok (.getfield 43, 3) := by decide +kernel
theorem dX6_become_109 : decode cX6_become 109 = .ok (.putfield 43, 3) := by decide +kernel
theorem dX6_become_112 : decode cX6_become 112 = .ok (.aload_n 0, 1) := by decide +kernel
theorem dX6_become_113 : decode cX6_become 113 = .ok (.aload_n 1, 1) := by decide +kernel
theorem dX6_become_114 : decode cX6_become 114 = .ok (.getfield 50, 3) := by decide +kernel
theorem dX6_become_117 : decode cX6_become 117 = .ok (.putfield 50, 3) := by decide +kernel
theorem dX6_become_120 : decode cX6_become 120 = .ok (.aload_n 0, 1) := by decide +kernel
theorem dX6_become_121 : decode cX6_become 121 = .ok (.aload_n 1, 1) := by decide +kernel
theorem dX6_become_122 : decode cX6_become 122 = .ok (.getfield 56, 3) := by decide +kernel
theorem dX6_become_125 : decode cX6_become 125 = .ok (.putfield 56, 3) := by decide +kernel
theorem dX6_become_128 : decode cX6_become 128 = .ok (.aload_n 0, 1) := by decide +kernel
theorem dX6_become_129 : decode cX6_become 129 = .ok (.aload_n 1, 1) := by decide +kernel
theorem dX6_become_130 : decode cX6_become 130 = .ok (.getfield 65, 3) := by decide +kernel
theorem dX6_become_133 : decode cX6_become 133 = .ok (.putfield 65, 3) := by decide +kernel
theorem dX6_become_136 : decode cX6_become 136 = .ok (.aload_n 0, 1) := by decide +kernel
theorem dX6_become_137 : decode cX6_become 137 = .ok (.aload_n 1, 1) := by decide +kernel
theorem dX6_become_138 : decode cX6_become 138 = .ok (.getfield 68, 3) := by decide +kernel
theorem dX6_become_141 : decode cX6_become 141 = .ok (.putfield 68, 3) := by decide +kernel
theorem dX6_become_144 : decode cX6_become 144 = .ok (.aload_n 0, 1) := by decide +kernel
theorem dX6_become_145 : decode cX6_become 145 = .ok (.aload_n 1, 1) := by decide +kernel
theorem dX6_become_146 : decode cX6_become 146 = .ok (.getfield 71, 3) := by decide +kernel
theorem dX6_become_149 : decode cX6_become 149 = .ok (.putfield 71, 3) := by decide +kernel
theorem dX6_become_152 : decode cX6_become 152 = .ok (.aload_n 0, 1) := by decide +kernel
theorem dX6_become_153 : decode cX6_become 153 = .ok (.aload_n 1, 1) := by decide +kernel
theorem dX6_become_154 : decode cX6_become 154 = .ok (.getfield 74, 3) := by decide +kernel
theorem dX6_become_157 : decode cX6_become 157 = .ok (.putfield 74, 3) := by decide +kernel
theorem dX6_become_160 : decode cX6_become 160 = .ok (.aload_n 0, 1) := by decide +kernel
theorem dX6_become_161 : decode cX6_become 161 = .ok (.aload_n 1, 1) := by decide +kernel
theorem dX6_become_162 : decode cX6_become 162 = .ok (.getfield 36, 3) := by decide +kernel
theorem dX6_become_165 : decode cX6_become 165 = .ok (.putfield 36, 3) := by decide +kernel
theorem dX6_become_168 : decode cX6_become 168 = .ok (.aload_n 0, 1) := by decide +kernel
theorem dX6_become_169 : decode cX6_become 169 = .ok (.aload_n 1, 1) := by decide +kernel
theorem dX6_become_170 : decode cX6_become 170 = .ok (.getfield 77, 3) := by decide +kernel
theorem dX6_become_173 : decode cX6_become 173 = .ok (.putfield 77, 3) := by decide +kernel
theorem dX6_become_176 : decode cX6_become 176 = .ok (.aload_n 0, 1) := by decide +kernel
theorem dX6_become_177 : decode cX6_become 177 = .ok (.aload_n 1, 1) := by decide +kernel
theorem dX6_become_178 : decode cX6_become 178 = .ok (.getfield 80, 3) := by decide +kernel
theorem dX6_become_181 : decode cX6_become 181 = .ok (.putfield 80, 3) := by decide +kernel
theorem dX6_become_184 : decode cX6_become 184 = .ok (.aload_n 0, 1) := by decide +kernel
theorem dX6_become_185 : decode cX6_become 185 = .ok (.aload_n 1, 1) := by decide +kernel
theorem dX6_become_186 : decode cX6_become 186 = .ok (.getfield 83, 3) := by decide +kernel
theorem dX6_become_189 : decode cX6_become 189 = .ok (.putfield 83, 3) := by decide +kernel
theorem dX6_become_192 : decode cX6_become 192 = .ok (.return_, 1) := by decide +kernel
theorem lf_RX6_43 : gLf RX6 43 6 4 := ⟨(RX6, TX6, 15), rfl, by decide, wA_t (wt2 (List.mem_of_getElem? (i := 16) (by decide +kernel))) (by decide +kernel), rfl⟩
theorem lf_RX6_11 : gLf RX6 11 6 0 := ⟨(RX6, TX6, 15), rfl, by decide, wA_t (wt2 (List.mem_of_getElem? (i := 7) (by decide +kernel))) (by decide +kernel), rfl⟩
theorem lv_RX6_46 : gLv RX6 46 RX9 yX9_become cX9_become 2 none 1 := gLv_of (wA_t (wt3 (List.mem_of_getElem? (i := 99) (by decide +kernel))) (by decide +kernel)) (wA_t (wt3 (List.mem_of_getElem? (i := 100) (by decide +kernel))) (by decide +kernel)) (wA_t (wt3 (List.mem_of_getElem? (i := 101) (by decide +kernel))) (by decide +kernel)) (wA_t (wt1 (List.mem_of_getElem? (i := 8) (by decide +kernel))) (by decide +kernel)) (wA_t (wt3 (List.mem_of_getElem? (i := 102) (by decide +kernel))) (by decide +kernel)) ⟨rfl, by decide +kernel, by decide +kernel, by decide +kernel⟩
theorem lf_RX6_50 : gLf RX6 50 6 5 := ⟨(RX6, TX6, 15), rfl, by decide, wA_t (wt2 (List.mem_of_getElem? (i := 19) (by decide +kernel))) (by decide +kernel), rfl⟩
theorem lf_RX6_19 : gLf RX6 19 6 1 := ⟨(RX6, TX6, 15), rfl, by decide, wA_t (wt2 (List.mem_of_getElem? (i := 9) (by decide +kernel))) (by decide +kernel), rfl⟩
theorem lv_RX6_53 : gLv RX6 53 RX5 yX5_become cX5_become 2 none 1 := gLv_of (wA_t (wt3 (List.mem_of_getElem? (i := 103) (by decide +kernel))) (by decide +kernel)) (wA_t (wt3 (List.mem_of_getElem? (i := 104) (by decide +kernel))) (by decide +kernel)) (wA_t (wt3 (List.mem_of_getElem? (i := 105) (by decide +kernel))) (by decide +kernel)) (wA_t (wt1 (List.mem_of_getElem? (i := 9) (by decide +kernel))) (by decide +kernel)) (wA_t (wt3 (List.mem_of_getElem? (i := 106) (by decide +kernel))) (by decide +kernel)) ⟨rfl, by decide +kernel, by decide +kernel, by decide +kernel⟩
theorem lf_RX6_56 : gLf RX6 56 6 6 := ⟨(RX6, TX6, 15), rfl, by decide, wA_t (wt2 (List.mem_of_getElem? (i := 22) (by decide +kernel))) (by decide +kernel), rfl⟩
theorem lf_RX6_25 : gLf RX6 25 6 2 := ⟨(RX6, TX6, 15), rfl, by decide, wA_t (wt2 (List.mem_of_getElem? (i := 12) (by decide +kernel))) (by decide +kernel), rfl⟩
theorem lv_RX6_59 : gLv RX6 59 RX4 yX4_become cX4_become 2 none 1 := gLv_of (wA_t (wt3 (List.mem_of_getElem? (i := 107) (by decide +kernel))) (by decide +kernel)) (wA_t (wt3 (List.mem_of_getElem? (i := 108) (by decide +kernel))) (by decide +kernel)) (wA_t (wt3 (List.mem_of_getElem? (i := 109) (by decide +kernel))) (by decide +kernel)) (wA_t (wt1 (List.mem_of_getElem? (i := 10) (by decide +kernel))) (by decide +kernel)) (wA_t (wt3 (List.mem_of_getElem? (i := 110) (by decide +kernel))) (by decide +kernel)) ⟨rfl, by decide +kernel, by decide +kernel, by decide +kernel⟩
theorem lf_RX6_32 : gLf RX6 32 6 3 := ⟨(RX6, TX6, 15), rfl, by decide, wA_t (wt2 (List.mem_of_getElem? (i := 14) (by decide +kernel))) (by decide +kernel), rfl⟩
theorem lv_RX6_62 : gLv RX6 62 RX0 yX0_become cX0_become 2 none 1 := gLv_of (wA_t (wt3 (List.mem_of_getElem? (i := 111) (by decide +kernel))) (by decide +kernel)) (wA_t (wt3 (List.mem_of_getElem? (i := 112) (by decide +kernel))) (by decide +kernel)) (wA_t (wt3 (List.mem_of_getElem? (i := 113) (by decide +kernel))) (by decide +kernel)) (wA_t (wt1 (List.mem_of_getElem? (i := 7) (by decide +kernel))) (by decide +kernel)) (wA_t (wt3 (List.mem_of_getElem? (i := 114) (by decide +kernel))) (by decide +kernel)) ⟨rfl, by decide +kernel, by decide +kernel, by decide +kernel⟩
theorem lp_RX6_43 : gLp RX6 43 6 4 := ⟨(RX6, TX6, 15), rfl, by decide, wA_t (wt2 (List.mem_of_getElem? (i := 16) (by decide +kernel))) (by decide +kernel), rfl, rfl⟩
theorem lp_RX6_50 : gLp RX6 50 6 5 := ⟨(RX6, TX6, 15), rfl, by decide, wA_t (wt2 (List.mem_of_getElem? (i := 19) (by decide +kernel))) (by decide +kernel), rfl, rfl⟩
theorem lp_RX6_56 : gLp RX6 56 6 6 := ⟨(RX6, TX6, 15), rfl, by decide, wA_t (wt2 (List.mem_of_getElem? (i := 22) (by decide +kernel))) (by decide +kernel), rfl, rfl⟩
theorem lf_RX6_65 : gLf RX6 65 6 7 := ⟨(RX6, TX6, 15), rfl, by decide, wA_t (wt2 (List.mem_of_getElem? (i := 25) (by decide +kernel))) (by decide +kernel), rfl⟩
theorem lp_RX6_65 : gLp RX6 65 6 7 := ⟨(RX6, TX6, 15), rfl, by decide, wA_t (wt2 (List.mem_of_getElem? (i := 25) (by decide +kernel))) (by decide +kernel), rfl, rfl⟩
theorem lf_RX6_68 : gLf RX6 68 6 8 := ⟨(RX6, TX6, 15), rfl, by decide, wA_t (wt2 (List.mem_of_getElem? (i := 27) (by decide +kernel))) (by decide +kernel), rfl⟩
theorem lp_RX6_68 : gLp RX6 68 6 8 := ⟨(RX6, TX6, 15), rfl, by decide, wA_t (wt2 (List.mem_of_getElem? (i := 27) (by decide +kernel))) (by decide +kernel), rfl, rfl⟩
theorem lf_RX6_71 : gLf RX6 71 6 9 := ⟨(RX6, TX6, 15), rfl, by decide, wA_t (wt2 (List.mem_of_getElem? (i := 30) (by decide +kernel))) (by decide +kernel), rfl⟩
theorem lp_RX6_71 : gLp RX6 71 6 9 := ⟨(RX6, TX6, 15), rfl, by decide, wA_t (wt2 (List.mem_of_getElem? (i := 30) (by decide +kernel))) (by decide +kernel), rfl, rfl⟩
theorem lf_RX6_74 : gLf RX6 74 6 10 := ⟨(RX6, TX6, 15), rfl, by decide, wA_t (wt2 (List.mem_of_getElem? (i := 33) (by decide +kernel))) (by decide +kernel), rfl⟩
theorem lp_RX6_74 : gLp RX6 74 6 10 := ⟨(RX6, TX6, 15), rfl, by decide, wA_t (wt2 (List.mem_of_getElem? (i := 33) (by decide +kernel))) (by decide +kernel), rfl, rfl⟩
theorem lf_RX6_36 : gLf RX6 36 6 11 := ⟨(RX6, TX6, 15), rfl, by decide, wA_t (wt2 (List.mem_of_getElem? (i := 35) (by decide +kernel))) (by decide +kernel), rfl⟩
theorem lp_RX6_36 : gLp RX6 36 6 11 := ⟨(RX6, TX6, 15), rfl, by decide, wA_t (wt2 (List.mem_of_getElem? (i := 35) (by decide +kernel))) (by decide +kernel), rfl, rfl⟩
theorem lf_RX6_77 : gLf RX6 77 6 12 := ⟨(RX6, TX6, 15), rfl, by decide, wA_t (wt2 (List.mem_of_getElem? (i := 37) (by decide +kernel))) (by decide +kernel), rfl⟩
theorem lp_RX6_77 : gLp RX6 77 6 12 := ⟨(RX6, TX6, 15), rfl, by decide, wA_t (wt2 (List.mem_of_getElem? (i := 37) (by decide +kernel))) (by decide +kernel), rfl, rfl⟩
theorem lf_RX6_80 : gLf RX6 80 6 13 := ⟨(RX6, TX6, 15), rfl, by decide, wA_t (wt2 (List.mem_of_getElem? (i := 39) (by decide +kernel))) (by decide +kernel), rfl⟩
theorem lp_RX6_80 : gLp RX6 80 6 13 := ⟨(RX6, TX6, 15), rfl, by decide, wA_t (wt2 (List.mem_of_getElem? (i := 39) (by decide +kernel))) (by decide +kernel), rfl, rfl⟩
theorem lf_RX6_83 : gLf RX6 83 6 14 := ⟨(RX6, TX6, 15), rfl, by decide, wA_t (wt2 (List.mem_of_getElem? (i := 41) (by decide +kernel))) (by decide +kernel), rfl⟩
theorem lp_RX6_83 : gLp RX6 83 6 14 := ⟨(RX6, TX6, 15), rfl, by decide, wA_t (wt2 (List.mem_of_getElem? (i := 41) (by decide +kernel))) (by decide +kernel), rfl, rfl⟩
def rm_X6_become : Room := { frames := 2, cells := 0, slots := 0, locals := 61 }
def b_X6_become_2 (τ : gτ) (n : Nat) (x0 : Nat) (x1 : Nat) (x2 : Int32) (G : gG) : Option ((Int32 × gG) ⊕ ((gG))) :=
  if (gi G 6 4 x1) ≤ x2 then (some (.inr G))
  else ((gr G 6 0 x0).bind fun a1 =>
  gchk (gIn x2 (gn τ a1)) <| (gq G a1 (Int32.toNatClampNeg x2)).bind fun a2 =>
  (gr G 6 0 x1).bind fun a3 =>
  gchk (gIn x2 (gn τ a3)) <| (gq G a3 (Int32.toNatClampNeg x2)).bind fun a4 =>
  (f_X9_become a2 a4 G).bind fun G5 =>
  gLet (x2 + 1) fun v6 =>
  some (.inl (v6, G5)))
def l_X6_become_2 (τ : gτ) (n : Nat) (x0 : Nat) (x1 : Nat) (x2 : Int32) (G : gG) : Option ((gG)) :=
  gIter (fun (q : Int32 × gG) => b_X6_become_2 τ n x0 x1 q.1 q.2) n (x2, G)
def b_X6_become_33 (τ : gτ) (n : Nat) (x0 : Nat) (x1 : Nat) (x2 : Int32) (G : gG) : Option ((Int32 × gG) ⊕ ((gG))) :=
  if (gi G 6 5 x1) ≤ x2 then (some (.inr G))
  else ((gr G 6 1 x0).bind fun a8 =>
  gchk (gIn x2 (gn τ a8)) <| (gq G a8 (Int32.toNatClampNeg x2)).bind fun a9 =>
  (gr G 6 1 x1).bind fun a10 =>
  gchk (gIn x2 (gn τ a10)) <| (gq G a10 (Int32.toNatClampNeg x2)).bind fun a11 =>
  (f_X5_become a9 a11 G).bind fun G12 =>
  gLet (x2 + 1) fun v13 =>
  some (.inl (v13, G12)))
def l_X6_become_33 (τ : gτ) (n : Nat) (x0 : Nat) (x1 : Nat) (x2 : Int32) (G : gG) : Option ((gG)) :=
  gIter (fun (q : Int32 × gG) => b_X6_become_33 τ n x0 x1 q.1 q.2) n (x2, G)
def b_X6_become_64 (τ : gτ) (n : Nat) (x0 : Nat) (x1 : Nat) (x2 : Int32) (G : gG) : Option ((Int32 × gG) ⊕ ((gG))) :=
  if (gi G 6 6 x1) ≤ x2 then (some (.inr G))
  else ((gr G 6 2 x0).bind fun a15 =>
  gchk (gIn x2 (gn τ a15)) <| (gq G a15 (Int32.toNatClampNeg x2)).bind fun a16 =>
  (gr G 6 2 x1).bind fun a17 =>
  gchk (gIn x2 (gn τ a17)) <| (gq G a17 (Int32.toNatClampNeg x2)).bind fun a18 =>
  (f_X4_become a16 a18 G).bind fun G19 =>
  gLet (x2 + 1) fun v20 =>
  some (.inl (v20, G19)))
def l_X6_become_64 (τ : gτ) (n : Nat) (x0 : Nat) (x1 : Nat) (x2 : Int32) (G : gG) : Option ((gG)) :=
  gIter (fun (q : Int32 × gG) => b_X6_become_64 τ n x0 x1 q.1 q.2) n (x2, G)
def k_X6_become_93 (τ : gτ) (n : Nat) (x0 : Nat) (x1 : Nat)  (G : gG) : Option (gG) :=
  (gr G 6 3 x0).bind fun a22 =>
  (gr G 6 3 x1).bind fun a23 =>
  (f_X0_become τ a22 a23 G).bind fun G24 =>
  gLet (gsi G24 6 4 x0 (gi G24 6 4 x1)) fun G25 =>
  gLet (gsi G25 6 5 x0 (gi G25 6 5 x1)) fun G26 =>
  gLet (gsi G26 6 6 x0 (gi G26 6 6 x1)) fun G27 =>
  gLet (gsi G27 6 7 x0 (gi G27 6 7 x1)) fun G28 =>
  gLet (gsi G28 6 8 x0 (gi G28 6 8 x1)) fun G29 =>
  gLet (gsi G29 6 9 x0 (gi G29 6 9 x1)) fun G30 =>
  gLet (gsi G30 6 10 x0 (gi G30 6 10 x1)) fun G31 =>
  gLet (gsi G31 6 11 x0 (gi G31 6 11 x1)) fun G32 =>
  gLet (gsi G32 6 12 x0 (gi G32 6 12 x1)) fun G33 =>
  gLet (gsi G33 6 13 x0 (gi G33 6 13 x1)) fun G34 =>
  gLet (gsi G34 6 14 x0 (gi G34 6 14 x1)) fun G35 =>
  some G35
def k_X6_become_62 (τ : gτ) (n : Nat) (x0 : Nat) (x1 : Nat)  (G : gG) : Option (gG) :=
  (l_X6_become_64 τ n x0 x1 (0 : Int32) G).bind fun q => gLet q fun G21 => 
  k_X6_become_93 τ n x0 x1  G21
def k_X6_become_31 (τ : gτ) (n : Nat) (x0 : Nat) (x1 : Nat)  (G : gG) : Option (gG) :=
  (l_X6_become_33 τ n x0 x1 (0 : Int32) G).bind fun q => gLet q fun G14 => 
  k_X6_become_62 τ n x0 x1  G14
def f_X6_become (τ : gτ) (n : Nat) (x0 : Nat) (x1 : Nat) (G : gG) : Option (gG) :=
  (l_X6_become_2 τ n x0 x1 (0 : Int32) G).bind fun q => gLet q fun G7 => 
  k_X6_become_31 τ n x0 x1  G7
set_option maxHeartbeats 4000000 in
set_option maxRecDepth 100000 in
theorem w_b_X6_become_2 {X : gX} {τ : gτ} {p : Program} {l : Launch} {e : Env} {s : State} {m : MethodId} {args : Array Value} {below : List Frame} {meth : Method} {c : Code} (fx : gFx X p s m args meth c cX6_become 3 RX6) (n : Nat) (x0 : Nat) (x1 : Nat) (x2 : Int32) (h0 : gK τ x0 6) (h1 : gK τ x1 6) {Q : State → Prop} {K : ((Int32 × gG) ⊕ ((gG))) → Prop} {G : gG} {H : Heap} {locs : List Loc} {ls : Array Slot} (hw : gHw X τ G H locs) (hl : lv_has ls 3 [(0, .ref x0), (1, .ref x1), (2, .int x2)]) (hok : gOk (b_X6_become_2 τ n x0 x1 x2 G) K) (hc : ∀ (y2 : Int32) (G : gG) (H : Heap) (locs : List Loc) (ls : Array Slot), gHw X τ G H locs → lv_has ls 3 [(0, .ref x0), (1, .ref x1), (2, .int y2)] → K (.inl (y2, G)) → W p l e rm_X6_become s m args below meth c H locs 0 0 Q (F0 m 2 ls [])) (hx0 : ∀ (G : gG) (H : Heap) (locs : List Loc) (ls : Array Slot), gHw X τ G H locs → lv_has ls 3 [(0, .ref x0), (1, .ref x1)] → K (.inr G) → W p l e rm_X6_become s m args below meth c H locs 0 0 Q (F0 m 31 ls [])) : W p l e rm_X6_become s m args below meth c H locs 0 0 Q (F0 m 2 ls []) := by
  unfold b_X6_become_2 at hok
  refine lv_iload_n fx.1 fx.2.1 dX6_become_2 rfl (lv_at hl 2 rfl) ?_
  refine lv_aload_n fx.1 fx.2.1 dX6_become_3 rfl (lv_at hl 1 rfl) ?_
  refine g_geti fx hw h1 lf_RX6_43 rfl dX6_become_4 ?_
  refine g_icmp_ge (tgt := 31) fx dX6_become_7 (by decide) hok (fun hok => ?_) (fun hok => ?_)
  · exact hx0  G _ _ _  hw (lv_sub hl [0, 1] rfl) (gOk_some hok)
  · refine lv_aload_n fx.1 fx.2.1 dX6_become_10 rfl (lv_at hl 0 rfl) ?_
    refine g_getr fx hw h0 lf_RX6_11 rfl dX6_become_11 hok (fun a1 h_a1 hok => ?_)
    refine lv_iload_n fx.1 fx.2.1 dX6_become_14 rfl (lv_at hl 2 rfl) ?_
    refine g_aald fx hw 17 5 h_a1 (by decide) (by decide) rfl (κ' := 9) rfl dX6_become_15 hok (fun a2 h_a2 hok => ?_)
    refine lv_aload_n fx.1 fx.2.1 dX6_become_16 rfl (lv_at hl 1 rfl) ?_
    refine g_getr fx hw h1 lf_RX6_11 rfl dX6_become_17 hok (fun a3 h_a3 hok => ?_)
    refine lv_iload_n fx.1 fx.2.1 dX6_become_20 rfl (lv_at hl 2 rfl) ?_
    refine g_aald fx hw 17 5 h_a3 (by decide) (by decide) rfl (κ' := 9) rfl dX6_become_21 hok (fun a4 h_a4 hok => ?_)
    obtain ⟨G5, hf, hok⟩ := gOk_bind hok
    refine g_callV0 (κ := 9) fx hw (c_X9_become l X τ a2 a4 G h_a2 h_a4 hf) lv_RX6_46 ⟨rfl, rfl⟩ rfl rfl h_a2 rfl hl.1 rfl ⟨Nat.le_of_ble_eq_true rfl, Nat.le_of_ble_eq_true rfl⟩ (Nat.le_of_ble_eq_true rfl) ⟨Nat.le_of_ble_eq_true rfl, Nat.le_of_ble_eq_true rfl⟩ dX6_become_22 (fun H locs hw => ?_)
    obtain ⟨v6, e_v6, hok⟩ := gOk_let hok
    refine lv_iinc (v := v6) (lv' := [(2, .int v6), (0, .ref x0), (1, .ref x1)]) fx.1 fx.2.1 dX6_become_25 hl (k := 2) rfl (by rw [e_v6]; rfl) (by decide) rfl (fun ls hl => ?_)
    refine lv_goto (tgt := 2) fx.1 fx.2.1 dX6_become_28 (by decide) ?_
    exact hc v6 G5 _ _ _  hw (lv_sub hl [1, 2, 0] rfl) (gOk_some hok)
theorem w_l_X6_become_2 {X : gX} {τ : gτ} {p : Program} {l : Launch} {e : Env} {s : State} {m : MethodId} {args : Array Value} {below : List Frame} {meth : Method} {c : Code} (fx : gFx X p s m args meth c cX6_become 3 RX6) (n : Nat) (x0 : Nat) (x1 : Nat) (h0 : gK τ x0 6) (h1 : gK τ x1 6) {Q : State → Prop} {K : ((gG)) → Prop} (hx0 : ∀ (G : gG) (H : Heap) (locs : List Loc) (ls : Array Slot), gHw X τ G H locs → lv_has ls 3 [(0, .ref x0), (1, .ref x1)] → K G → W p l e rm_X6_become s m args below meth c H locs 0 0 Q (F0 m 31 ls [])) : ∀ (k : Nat) (x2 : Int32) (G : gG) (H : Heap) (locs : List Loc) (ls : Array Slot), gHw X τ G H locs → lv_has ls 3 [(0, .ref x0), (1, .ref x1), (2, .int x2)] → gOk (gIter (fun (q : Int32 × gG) => b_X6_become_2 τ n x0 x1 q.1 q.2) k (x2, G)) K → W p l e rm_X6_become s m args below meth c H locs 0 0 Q (F0 m 2 ls []) := by
  intro k
  induction k with
  | zero =>
    intro x2 G H locs ls hw hl hok
    exact gOk_iter0 hok
  | succ k hc =>
    intro x2 G H locs ls hw hl hok
    exact w_b_X6_become_2 fx n x0 x1 x2 h0 h1 hw hl (gOk_iter hok) hc hx0
set_option maxHeartbeats 4000000 in
set_option maxRecDepth 100000 in
theorem w_b_X6_become_33 {X : gX} {τ : gτ} {p : Program} {l : Launch} {e : Env} {s : State} {m : MethodId} {args : Array Value} {below : List Frame} {meth : Method} {c : Code} (fx : gFx X p s m args meth c cX6_become 3 RX6) (n : Nat) (x0 : Nat) (x1 : Nat) (x2 : Int32) (h0 : gK τ x0 6) (h1 : gK τ x1 6) {Q : State → Prop} {K : ((Int32 × gG) ⊕ ((gG))) → Prop} {G : gG} {H : Heap} {locs : List Loc} {ls : Array Slot} (hw : gHw X τ G H locs) (hl : lv_has ls 3 [(0, .ref x0), (1, .ref x1), (2, .int x2)]) (hok : gOk (b_X6_become_33 τ n x0 x1 x2 G) K) (hc : ∀ (y2 : Int32) (G : gG) (H : Heap) (locs : List Loc) (ls : Array Slot), gHw X τ G H locs → lv_has ls 3 [(0, .ref x0), (1, .ref x1), (2, .int y2)] → K (.inl (y2, G)) → W p l e rm_X6_become s m args below meth c H locs 0 0 Q (F0 m 33 ls [])) (hx0 : ∀ (G : gG) (H : Heap) (locs : List Loc) (ls : Array Slot), gHw X τ G H locs → lv_has ls 3 [(0, .ref x0), (1, .ref x1)] → K (.inr G) → W p l e rm_X6_become s m args below meth c H locs 0 0 Q (F0 m 62 ls [])) : W p l e rm_X6_become s m args below meth c H locs 0 0 Q (F0 m 33 ls []) := by
  unfold b_X6_become_33 at hok
  refine lv_iload_n fx.1 fx.2.1 dX6_become_33 rfl (lv_at hl 2 rfl) ?_
  refine lv_aload_n fx.1 fx.2.1 dX6_become_34 rfl (lv_at hl 1 rfl) ?_
  refine g_geti fx hw h1 lf_RX6_50 rfl dX6_become_35 ?_
  refine g_icmp_ge (tgt := 62) fx dX6_become_38 (by decide) hok (fun hok => ?_) (fun hok => ?_)
  · exact hx0  G _ _ _  hw (lv_sub hl [0, 1] rfl) (gOk_some hok)
  · refine lv_aload_n fx.1 fx.2.1 dX6_become_41 rfl (lv_at hl 0 rfl) ?_
    refine g_getr fx hw h0 lf_RX6_19 rfl dX6_become_42 hok (fun a8 h_a8 hok => ?_)
    refine lv_iload_n fx.1 fx.2.1 dX6_become_45 rfl (lv_at hl 2 rfl) ?_
    refine g_aald fx hw 15 3 h_a8 (by decide) (by decide) rfl (κ' := 5) rfl dX6_become_46 hok (fun a9 h_a9 hok => ?_)
    refine lv_aload_n fx.1 fx.2.1 dX6_become_47 rfl (lv_at hl 1 rfl) ?_
    refine g_getr fx hw h1 lf_RX6_19 rfl dX6_become_48 hok (fun a10 h_a10 hok => ?_)
    refine lv_iload_n fx.1 fx.2.1 dX6_become_51 rfl (lv_at hl 2 rfl) ?_
    refine g_aald fx hw 15 3 h_a10 (by decide) (by decide) rfl (κ' := 5) rfl dX6_become_52 hok (fun a11 h_a11 hok => ?_)
    obtain ⟨G12, hf, hok⟩ := gOk_bind hok
    refine g_callV0 (κ := 5) fx hw (c_X5_become l X τ a9 a11 G h_a9 h_a11 hf) lv_RX6_53 ⟨rfl, rfl⟩ rfl rfl h_a9 rfl hl.1 rfl ⟨Nat.le_of_ble_eq_true rfl, Nat.le_of_ble_eq_true rfl⟩ (Nat.le_of_ble_eq_true rfl) ⟨Nat.le_of_ble_eq_true rfl, Nat.le_of_ble_eq_true rfl⟩ dX6_become_53 (fun H locs hw => ?_)
    obtain ⟨v13, e_v13, hok⟩ := gOk_let hok
    refine lv_iinc (v := v13) (lv' := [(2, .int v13), (0, .ref x0), (1, .ref x1)]) fx.1 fx.2.1 dX6_become_56 hl (k := 2) rfl (by rw [e_v13]; rfl) (by decide) rfl (fun ls hl => ?_)
    refine lv_goto (tgt := 33) fx.1 fx.2.1 dX6_become_59 (by decide) ?_
    exact hc v13 G12 _ _ _  hw (lv_sub hl [1, 2, 0] rfl) (gOk_some hok)
theorem w_l_X6_become_33 {X : gX} {τ : gτ} {p : Program} {l : Launch} {e : Env} {s : State} {m : MethodId} {args : Array Value} {below : List Frame} {meth : Method} {c : Code} (fx : gFx X p s m args meth c cX6_become 3 RX6) (n : Nat) (x0 : Nat) (x1 : Nat) (h0 : gK τ x0 6) (h1 : gK τ x1 6) {Q : State → Prop} {K : ((gG)) → Prop} (hx0 : ∀ (G : gG) (H : Heap) (locs : List Loc) (ls : Array Slot), gHw X τ G H locs → lv_has ls 3 [(0, .ref x0), (1, .ref x1)] → K G → W p l e rm_X6_become s m args below meth c H locs 0 0 Q (F0 m 62 ls [])) : ∀ (k : Nat) (x2 : Int32) (G : gG) (H : Heap) (locs : List Loc) (ls : Array Slot), gHw X τ G H locs → lv_has ls 3 [(0, .ref x0), (1, .ref x1), (2, .int x2)] → gOk (gIter (fun (q : Int32 × gG) => b_X6_become_33 τ n x0 x1 q.1 q.2) k (x2, G)) K → W p l e rm_X6_become s m args below meth c H locs 0 0 Q (F0 m 33 ls []) := by
  intro k
  induction k with
  | zero =>
    intro x2 G H locs ls hw hl hok
    exact gOk_iter0 hok
  | succ k hc =>
    intro x2 G H locs ls hw hl hok
    exact w_b_X6_become_33 fx n x0 x1 x2 h0 h1 hw hl (gOk_iter hok) hc hx0
set_option maxHeartbeats 4000000 in
set_option maxRecDepth 100000 in
theorem w_b_X6_become_64 {X : gX} {τ : gτ} {p : Program} {l : Launch} {e : Env} {s : State} {m : MethodId} {args : Array Value} {below : List Frame} {meth : Method} {c : Code} (fx : gFx X p s m args meth c cX6_become 3 RX6) (n : Nat) (x0 : Nat) (x1 : Nat) (x2 : Int32) (h0 : gK τ x0 6) (h1 : gK τ x1 6) {Q : State → Prop} {K : ((Int32 × gG) ⊕ ((gG))) → Prop} {G : gG} {H : Heap} {locs : List Loc} {ls : Array Slot} (hw : gHw X τ G H locs) (hl : lv_has ls 3 [(0, .ref x0), (1, .ref x1), (2, .int x2)]) (hok : gOk (b_X6_become_64 τ n x0 x1 x2 G) K) (hc : ∀ (y2 : Int32) (G : gG) (H : Heap) (locs : List Loc) (ls : Array Slot), gHw X τ G H locs → lv_has ls 3 [(0, .ref x0), (1, .ref x1), (2, .int y2)] → K (.inl (y2, G)) → W p l e rm_X6_become s m args below meth c H locs 0 0 Q (F0 m 64 ls [])) (hx0 : ∀ (G : gG) (H : Heap) (locs : List Loc) (ls : Array Slot), gHw X τ G H locs → lv_has ls 3 [(0, .ref x0), (1, .ref x1)] → K (.inr G) → W p l e rm_X6_become s m args below meth c H locs 0 0 Q (F0 m 93 ls [])) : W p l e rm_X6_become s m args below meth c H locs 0 0 Q (F0 m 64 ls []) := by
  unfold b_X6_become_64 at hok
  refine lv_iload_n fx.1 fx.2.1 dX6_become_64 rfl (lv_at hl 2 rfl) ?_
  refine lv_aload_n fx.1 fx.2.1 dX6_become_65 rfl (lv_at hl 1 rfl) ?_
  refine g_geti fx hw h1 lf_RX6_56 rfl dX6_become_66 ?_
  refine g_icmp_ge (tgt := 93) fx dX6_become_69 (by decide) hok (fun hok => ?_) (fun hok => ?_)
  · exact hx0  G _ _ _  hw (lv_sub hl [0, 1] rfl) (gOk_some hok)
  · refine lv_aload_n fx.1 fx.2.1 dX6_become_72 rfl (lv_at hl 0 rfl) ?_
    refine g_getr fx hw h0 lf_RX6_25 rfl dX6_become_73 hok (fun a15 h_a15 hok => ?_)
    refine lv_iload_n fx.1 fx.2.1 dX6_become_76 rfl (lv_at hl 2 rfl) ?_
    refine g_aald fx hw 14 2 h_a15 (by decide) (by decide) rfl (κ' := 4) rfl dX6_become_77 hok (fun a16 h_a16 hok => ?_)
    refine lv_aload_n fx.1 fx.2.1 dX6_become_78 rfl (lv_at hl 1 rfl) ?_
    refine g_getr fx hw h1 lf_RX6_25 rfl dX6_become_79 hok (fun a17 h_a17 hok => ?_)
    refine lv_iload_n fx.1 fx.2.1 dX6_become_82 rfl (lv_at hl 2 rfl) ?_
    refine g_aald fx hw 14 2 h_a17 (by decide) (by decide) rfl (κ' := 4) rfl dX6_become_83 hok (fun a18 h_a18 hok => ?_)
    obtain ⟨G19, hf, hok⟩ := gOk_bind hok
    refine g_callV0 (κ := 4) fx hw (c_X4_become l X τ a16 a18 G h_a16 h_a18 hf) lv_RX6_59 ⟨rfl, rfl⟩ rfl rfl h_a16 rfl hl.1 rfl ⟨Nat.le_of_ble_eq_true rfl, Nat.le_of_ble_eq_true rfl⟩ (Nat.le_of_ble_eq_true rfl) ⟨Nat.le_of_ble_eq_true rfl, Nat.le_of_ble_eq_true rfl⟩ dX6_become_84 (fun H locs hw => ?_)
    obtain ⟨v20, e_v20, hok⟩ := gOk_let hok
    refine lv_iinc (v := v20) (lv' := [(2, .int v20), (0, .ref x0), (1, .ref x1)]) fx.1 fx.2.1 dX6_become_87 hl (k := 2) rfl (by rw [e_v20]; rfl) (by decide) rfl (fun ls hl => ?_)
    refine lv_goto (tgt := 64) fx.1 fx.2.1 dX6_become_90 (by decide) ?_
    exact hc v20 G19 _ _ _  hw (lv_sub hl [1, 2, 0] rfl) (gOk_some hok)
theorem w_l_X6_become_64 {X : gX} {τ : gτ} {p : Program} {l : Launch} {e : Env} {s : State} {m : MethodId} {args : Array Value} {below : List Frame} {meth : Method} {c : Code} (fx : gFx X p s m args meth c cX6_become 3 RX6) (n : Nat) (x0 : Nat) (x1 : Nat) (h0 : gK τ x0 6) (h1 : gK τ x1 6) {Q : State → Prop} {K : ((gG)) → Prop} (hx0 : ∀ (G : gG) (H : Heap) (locs : List Loc) (ls : Array Slot), gHw X τ G H locs → lv_has ls 3 [(0, .ref x0), (1, .ref x1)] → K G → W p l e rm_X6_become s m args below meth c H locs 0 0 Q (F0 m 93 ls [])) : ∀ (k : Nat) (x2 : Int32) (G : gG) (H : Heap) (locs : List Loc) (ls : Array Slot), gHw X τ G H locs → lv_has ls 3 [(0, .ref x0), (1, .ref x1), (2, .int x2)] → gOk (gIter (fun (q : Int32 × gG) => b_X6_become_64 τ n x0 x1 q.1 q.2) k (x2, G)) K → W p l e rm_X6_become s m args below meth c H locs 0 0 Q (F0 m 64 ls []) := by
  intro k
  induction k with
  | zero =>
    intro x2 G H locs ls hw hl hok
    exact gOk_iter0 hok
  | succ k hc =>
    intro x2 G H locs ls hw hl hok
    exact w_b_X6_become_64 fx n x0 x1 x2 h0 h1 hw hl (gOk_iter hok) hc hx0
set_option maxHeartbeats 4000000 in
set_option maxRecDepth 100000 in
theorem w_X6_become_93 {X : gX} {τ : gτ} {p : Program} {l : Launch} {e : Env} {s : State} {m : MethodId} {args : Array Value} {below : List Frame} {meth : Method} {c : Code} (fx : gFx X p s m args meth c cX6_become 3 RX6) (n : Nat) (x0 : Nat) (x1 : Nat)  (h0 : gK τ x0 6) (h1 : gK τ x1 6)  (hr : meth.sig.returnType = none) {G' : gG} {G : gG} {H : Heap} {locs : List Loc} {ls : Array Slot} (hw : gHw X τ G H locs) (hl : lv_has ls 3 [(0, .ref x0), (1, .ref x1)]) (hok : gOk (k_X6_become_93 τ n x0 x1  G) (fun q => q = G'))  : W p l e rm_X6_become s m args below meth c H locs 0 0 (MQ below (gQ X τ none G') args s 0 0 (gFree X)) (F0 m 93 ls []) := by
  unfold k_X6_become_93 at hok
  refine lv_aload_n fx.1 fx.2.1 dX6_become_93 rfl (lv_at hl 0 rfl) ?_
  refine g_getr fx hw h0 lf_RX6_32 rfl dX6_become_94 hok (fun a22 h_a22 hok => ?_)
  refine lv_aload_n fx.1 fx.2.1 dX6_become_97 rfl (lv_at hl 1 rfl) ?_
  refine g_getr fx hw h1 lf_RX6_32 rfl dX6_become_98 hok (fun a23 h_a23 hok => ?_)
  obtain ⟨G24, hf, hok⟩ := gOk_bind hok
  refine g_callV0 (κ := 0) fx hw (c_X0_become l X τ a22 a23 G h_a22 h_a23 hf) lv_RX6_62 ⟨rfl, rfl⟩ rfl rfl h_a22 rfl hl.1 rfl ⟨Nat.le_of_ble_eq_true rfl, Nat.le_of_ble_eq_true rfl⟩ (Nat.le_of_ble_eq_true rfl) ⟨Nat.le_of_ble_eq_true rfl, Nat.le_of_ble_eq_true rfl⟩ dX6_become_101 (fun H locs hw => ?_)
  refine lv_aload_n fx.1 fx.2.1 dX6_become_104 rfl (lv_at hl 0 rfl) ?_
  refine lv_aload_n fx.1 fx.2.1 dX6_become_105 rfl (lv_at hl 1 rfl) ?_
  refine g_geti fx hw h1 lf_RX6_43 rfl dX6_become_106 ?_
  refine g_puti fx hw h0 lp_RX6_43 rfl rfl dX6_become_109 hok (fun G25 H locs hw hok => ?_)
  refine lv_aload_n fx.1 fx.2.1 dX6_become_112 rfl (lv_at hl 0 rfl) ?_
  refine lv_aload_n fx.1 fx.2.1 dX6_become_113 rfl (lv_at hl 1 rfl) ?_
  refine g_geti fx hw h1 lf_RX6_50 rfl dX6_become_114 ?_
  refine g_puti fx hw h0 lp_RX6_50 rfl rfl dX6_become_117 hok (fun G26 H locs hw hok => ?_)
  refine lv_aload_n fx.1 fx.2.1 dX6_become_120 rfl (lv_at hl 0 rfl) ?_
  refine lv_aload_n fx.1 fx.2.1 dX6_become_121 rfl (lv_at hl 1 rfl) ?_
  refine g_geti fx hw h1 lf_RX6_56 rfl dX6_become_122 ?_
  refine g_puti fx hw h0 lp_RX6_56 rfl rfl dX6_become_125 hok (fun G27 H locs hw hok => ?_)
  refine lv_aload_n fx.1 fx.2.1 dX6_become_128 rfl (lv_at hl 0 rfl) ?_
  refine lv_aload_n fx.1 fx.2.1 dX6_become_129 rfl (lv_at hl 1 rfl) ?_
  refine g_geti fx hw h1 lf_RX6_65 rfl dX6_become_130 ?_
  refine g_puti fx hw h0 lp_RX6_65 rfl rfl dX6_become_133 hok (fun G28 H locs hw hok => ?_)
  refine lv_aload_n fx.1 fx.2.1 dX6_become_136 rfl (lv_at hl 0 rfl) ?_
  refine lv_aload_n fx.1 fx.2.1 dX6_become_137 rfl (lv_at hl 1 rfl) ?_
  refine g_geti fx hw h1 lf_RX6_68 rfl dX6_become_138 ?_
  refine g_puti fx hw h0 lp_RX6_68 rfl rfl dX6_become_141 hok (fun G29 H locs hw hok => ?_)
  refine lv_aload_n fx.1 fx.2.1 dX6_become_144 rfl (lv_at hl 0 rfl) ?_
  refine lv_aload_n fx.1 fx.2.1 dX6_become_145 rfl (lv_at hl 1 rfl) ?_
  refine g_geti fx hw h1 lf_RX6_71 rfl dX6_become_146 ?_
  refine g_puti fx hw h0 lp_RX6_71 rfl rfl dX6_become_149 hok (fun G30 H locs hw hok => ?_)
  refine lv_aload_n fx.1 fx.2.1 dX6_become_152 rfl (lv_at hl 0 rfl) ?_
  refine lv_aload_n fx.1 fx.2.1 dX6_become_153 rfl (lv_at hl 1 rfl) ?_
  refine g_geti fx hw h1 lf_RX6_74 rfl dX6_become_154 ?_
  refine g_puti fx hw h0 lp_RX6_74 rfl rfl dX6_become_157 hok (fun G31 H locs hw hok => ?_)
  refine lv_aload_n fx.1 fx.2.1 dX6_become_160 rfl (lv_at hl 0 rfl) ?_
  refine lv_aload_n fx.1 fx.2.1 dX6_become_161 rfl (lv_at hl 1 rfl) ?_
  refine g_geti fx hw h1 lf_RX6_36 rfl dX6_become_162 ?_
  refine g_puti fx hw h0 lp_RX6_36 rfl rfl dX6_become_165 hok (fun G32 H locs hw hok => ?_)
  refine lv_aload_n fx.1 fx.2.1 dX6_become_168 rfl (lv_at hl 0 rfl) ?_
  refine lv_aload_n fx.1 fx.2.1 dX6_become_169 rfl (lv_at hl 1 rfl) ?_
  refine g_geti fx hw h1 lf_RX6_77 rfl dX6_become_170 ?_
  refine g_puti fx hw h0 lp_RX6_77 rfl rfl dX6_become_173 hok (fun G33 H locs hw hok => ?_)
  refine lv_aload_n fx.1 fx.2.1 dX6_become_176 rfl (lv_at hl 0 rfl) ?_
  refine lv_aload_n fx.1 fx.2.1 dX6_become_177 rfl (lv_at hl 1 rfl) ?_
  refine g_geti fx hw h1 lf_RX6_80 rfl dX6_become_178 ?_
  refine g_puti fx hw h0 lp_RX6_80 rfl rfl dX6_become_181 hok (fun G34 H locs hw hok => ?_)
  refine lv_aload_n fx.1 fx.2.1 dX6_become_184 rfl (lv_at hl 0 rfl) ?_
  refine lv_aload_n fx.1 fx.2.1 dX6_become_185 rfl (lv_at hl 1 rfl) ?_
  refine g_geti fx hw h1 lf_RX6_83 rfl dX6_become_186 ?_
  refine g_puti fx hw h0 lp_RX6_83 rfl rfl dX6_become_189 hok (fun G35 H locs hw hok => ?_)
  cases gOk_some hok
  exact g_vret fx hw hr dX6_become_192
set_option maxHeartbeats 4000000 in
set_option maxRecDepth 100000 in
theorem w_X6_become_62 {X : gX} {τ : gτ} {p : Program} {l : Launch} {e : Env} {s : State} {m : MethodId} {args : Array Value} {below : List Frame} {meth : Method} {c : Code} (fx : gFx X p s m args meth c cX6_become 3 RX6) (n : Nat) (x0 : Nat) (x1 : Nat)  (h0 : gK τ x0 6) (h1 : gK τ x1 6)  (hr : meth.sig.returnType = none) {G' : gG} {G : gG} {H : Heap} {locs : List Loc} {ls : Array Slot} (hw : gHw X τ G H locs) (hl : lv_has ls 3 [(0, .ref x0), (1, .ref x1)]) (hok : gOk (k_X6_become_62 τ n x0 x1  G) (fun q => q = G'))  : W p l e rm_X6_become s m args below meth c H locs 0 0 (MQ below (gQ X τ none G') args s 0 0 (gFree X)) (F0 m 62 ls []) := by
  unfold k_X6_become_62 at hok
  refine lv_iconst (v := 0) fx.1 fx.2.1 dX6_become_62 (by decide) ?_
  refine lv_istore_n (lv' := [(2, .int (0 : Int32)), (0, .ref x0), (1, .ref x1)]) fx.1 fx.2.1 dX6_become_63 rfl hl (by decide) rfl (fun ls hl => ?_)
  refine w_l_X6_become_64 fx n x0 x1 h0 h1 ?_ n (0 : Int32) G _ _ _  hw (lv_sub hl [1, 2, 0] rfl) (gOk_bindK hok)
  intro G21 H locs ls hw hl hok
  have hok : gOk (ρ := gG) (k_X6_become_93 τ n x0 x1  G21) _ := hok
  exact w_X6_become_93 fx n x0 x1  h0 h1  hr hw (lv_sub hl [0, 1] rfl) hok
set_option maxHeartbeats 4000000 in
set_option maxRecDepth 100000 in
theorem w_X6_become_31 {X : gX} {τ : gτ} {p : Program} {l : Launch} {e : Env} {s : State} {m : MethodId} {args : Array Value} {below : List Frame} {meth : Method} {c : Code} (fx : gFx X p s m args meth c cX6_become 3 RX6) (n : Nat) (x0 : Nat) (x1 : Nat)  (h0 : gK τ x0 6) (h1 : gK τ x1 6)  (hr : meth.sig.returnType = none) {G' : gG} {G : gG} {H : Heap} {locs : List Loc} {ls : Array Slot} (hw : gHw X τ G H locs) (hl : lv_has ls 3 [(0, .ref x0), (1, .ref x1)]) (hok : gOk (k_X6_become_31 τ n x0 x1  G) (fun q => q = G'))  : W p l e rm_X6_become s m args below meth c H locs 0 0 (MQ below (gQ X τ none G') args s 0 0 (gFree X)) (F0 m 31 ls []) := by
  unfold k_X6_become_31 at hok
  refine lv_iconst (v := 0) fx.1 fx.2.1 dX6_become_31 (by decide) ?_
  refine lv_istore_n (lv' := [(2, .int (0 : Int32)), (0, .ref x0), (1, .ref x1)]) fx.1 fx.2.1 dX6_become_32 rfl hl (by decide) rfl (fun ls hl => ?_)
  refine w_l_X6_become_33 fx n x0 x1 h0 h1 ?_ n (0 : Int32) G _ _ _  hw (lv_sub hl [1, 2, 0] rfl) (gOk_bindK hok)
  intro G14 H locs ls hw hl hok
  have hok : gOk (ρ := gG) (k_X6_become_62 τ n x0 x1  G14) _ := hok
  exact w_X6_become_62 fx n x0 x1  h0 h1  hr hw (lv_sub hl [0, 1] rfl) hok
set_option maxHeartbeats 4000000 in
set_option maxRecDepth 100000 in
theorem c_X6_become (l : Launch) (X : gX) (τ : gτ) (n : Nat) (x0 : Nat) (x1 : Nat) (G : gG) (h0 : gK τ x0 6) (h1 : gK τ x1 6) {G' : gG} (h : f_X6_become τ n x0 x1 G = some G') : gM l X τ yX6_become cX6_become 3 none rm_X6_become [.ref x0, .ref x1] G none G' := by
  refine g_body (by decide +kernel) (Nat.le_of_ble_eq_true rfl) ?_
  intro p e s m args below meth c ls fx hr hw hl
  have fx : gFx X p s m args meth c cX6_become 3 RX6 := fx
  have hl : lv_has ls 3 [(0, .ref x0), (1, .ref x1)] := hl
  have hok : gOk (f_X6_become τ n x0 x1 G) (fun q => q = G') := ⟨_, h, rfl⟩
  unfold f_X6_become at hok
  show W p l e rm_X6_become s m args below meth c s.heap [] 0 0 (MQ below (gQ X τ none G') args s 0 0 (gFree X)) _
  refine lv_iconst (v := 0) fx.1 fx.2.1 dX6_become_0 (by decide) ?_
  refine lv_istore_n (lv' := [(2, .int (0 : Int32)), (0, .ref x0), (1, .ref x1)]) fx.1 fx.2.1 dX6_become_1 rfl hl (by decide) rfl (fun ls hl => ?_)
  refine w_l_X6_become_2 fx n x0 x1 h0 h1 ?_ n (0 : Int32) G _ _ _  hw (lv_sub hl [1, 2, 0] rfl) (gOk_bindK hok)
  intro G7 H locs ls hw hl hok
  have hok : gOk (ρ := gG) (k_X6_become_31 τ n x0 x1  G7) _ := hok
  exact w_X6_become_31 fx n x0 x1  h0 h1  hr hw (lv_sub hl [0, 1] rfl) hok
theorem dX3_keep_0 : decode cX3_keep 0 = .ok (.aload_n 0, 1) := by decide +kernel
theorem dX3_keep_1 : decode cX3_keep 1 = .ok (.getfield 11, 3) := by decide +kernel
theorem dX3_keep_4 : decode cX3_keep 4 = .ok (.aload_n 0, 1) := by decide +kernel
theorem dX3_keep_5 : decode cX3_keep 5 = .ok (.getfield 18, 3) := by decide +kernel
theorem dX3_keep_8 : decode cX3_keep 8 = .ok (.aaload, 1) := by decide +kernel
theorem dX3_keep_9 : decode cX3_keep 9 = .ok (.aload_n 1, 1) := by decide +kernel
theorem dX3_keep_10 : decode cX3_keep 10 = .ok (.invokevirtual 22, 3) := by decide +kernel
theorem dX3_keep_13 : decode cX3_keep 13 = .ok (.aload_n 0, 1) := by decide +kernel
theorem dX3_keep_14 : decode cX3_keep 14 = .ok (.aload_n 0, 1) := by decide +kernel
theorem dX3_keep_15 : decode cX3_keep 15 = .ok (.getfield 18, 3) := by decide +kernel
theorem dX3_keep_18 : decode cX3_keep 18 = .ok (.iconst 1, 1) := by decide +kernel
theorem dX3_keep_19 : decode cX3_keep 19 = .ok (.iadd, 1) := by decide +kernel
theorem dX3_keep_20 : decode cX3_keep 20 = .ok (.bipush 12, 2) := by decide +kernel
theorem dX3_keep_22 : decode cX3_keep 22 = .ok (.irem, 1) := by decide +kernel
theorem dX3_keep_23 : decode cX3_keep 23 = .ok (.putfield 18, 3) := by decide +kernel
theorem dX3_keep_26 : decode cX3_keep 26 = .ok (.aload_n 0, 1) := by decide +kernel
theorem dX3_keep_27 : decode cX3_keep 27 = .ok (.aload_n 0, 1) := by decide +kernel
theorem dX3_keep_28 : decode cX3_keep 28 = .ok (.getfield 26, 3) := by decide +kernel
theorem dX3_keep_31 : decode cX3_keep 31 = .ok (.iconst 1, 1) := by decide +kernel
theorem dX3_keep_32 : decode cX3_keep 32 = .ok (.iadd, 1) := by decide +kernel
theorem dX3_keep_33 : decode cX3_keep 33 = .ok (.bipush 12, 2) := by decide +kernel
theorem dX3_keep_35 : decode cX3_keep 35 = .ok (.invokestatic 29, 3) := by decide +kernel
theorem dX3_keep_38 : decode cX3_keep 38 = .ok (.putfield 26, 3) := by decide +kernel
theorem dX3_keep_41 : decode cX3_keep 41 = .ok (.return_, 1) := by decide +kernel
theorem lf_RX3_11 : gLf RX3 11 3 0 := ⟨(RX3, TX3, 3), rfl, by decide, wA_t (wt2 (List.mem_of_getElem? (i := 74) (by decide +kernel))) (by decide +kernel), rfl⟩
theorem lf_RX3_18 : gLf RX3 18 3 2 := ⟨(RX3, TX3, 3), rfl, by decide, wA_t (wt2 (List.mem_of_getElem? (i := 77) (by decide +kernel))) (by decide +kernel), rfl⟩
theorem lv_RX3_22 : gLv RX3 22 RX6 yX6_become cX6_become 3 none 1 := gLv_of (wA_t (wt3 (List.mem_of_getElem? (i := 95) (by decide +kernel))) (by decide +kernel)) (wA_t (wt3 (List.mem_of_getElem? (i := 96) (by decide +kernel))) (by decide +kernel)) (wA_t (wt3 (List.mem_of_getElem? (i := 97) (by decide +kernel))) (by decide +kernel)) (wA_t (wt1 (List.mem_of_getElem? (i := 6) (by decide +kernel))) (by decide +kernel)) (wA_t (wt3 (List.mem_of_getElem? (i := 98) (by decide +kernel))) (by decide +kernel)) ⟨rfl, by decide +kernel, by decide +kernel, by decide +kernel⟩
theorem lp_RX3_18 : gLp RX3 18 3 2 := ⟨(RX3, TX3, 3), rfl, by decide, wA_t (wt2 (List.mem_of_getElem? (i := 77) (by decide +kernel))) (by decide +kernel), rfl, rfl⟩
theorem lf_RX3_26 : gLf RX3 26 3 1 := ⟨(RX3, TX3, 3), rfl, by decide, wA_t (wt2 (List.mem_of_getElem? (i := 75) (by decide +kernel))) (by decide +kernel), rfl⟩
theorem lm_RX3_29 : Cond.methodLink RX3 29 Lib.Math.min.name ∈ wA := wA_t (wt5 (List.mem_of_getElem? (i := 138) (by decide +kernel))) (by decide +kernel)
theorem lp_RX3_26 : gLp RX3 26 3 1 := ⟨(RX3, TX3, 3), rfl, by decide, wA_t (wt2 (List.mem_of_getElem? (i := 75) (by decide +kernel))) (by decide +kernel), rfl, rfl⟩
def rm_X3_keep : Room := { frames := 3, cells := 0, slots := 0, locals := 83 }
def f_X3_keep (τ : gτ) (n : Nat) (x0 : Nat) (x1 : Nat) (G : gG) : Option (gG) :=
  (gr G 3 0 x0).bind fun a1 =>
  gchk (gIn (gi G 3 2 x0) (gn τ a1)) <| (gq G a1 (Int32.toNatClampNeg (gi G 3 2 x0))).bind fun a2 =>
  (f_X6_become τ n a2 x1 G).bind fun G3 =>
  gLet (gsi G3 3 2 x0 (((gi G3 3 2 x0) + (1 : Int32)) - ((gi G3 3 2 x0) + (1 : Int32)) / (12 : Int32) * (12 : Int32))) fun G4 =>
  gLet (gsi G4 3 1 x0 (gmin ((gi G4 3 1 x0) + (1 : Int32)) (12 : Int32))) fun G5 =>
  some G5
set_option maxHeartbeats 4000000 in
set_option maxRecDepth 100000 in
theorem c_X3_keep (l : Launch) (X : gX) (τ : gτ) (n : Nat) (x0 : Nat) (x1 : Nat) (G : gG) (h0 : gK τ x0 3) (h1 : gK τ x1 6) {G' : gG} (h : f_X3_keep τ n x0 x1 G = some G') : gM l X τ yX3_keep cX3_keep 2 none rm_X3_keep [.ref x0, .ref x1] G none G' := by
  refine g_body (by decide +kernel) (Nat.le_of_ble_eq_true rfl) ?_
  intro p e s m args below meth c ls fx hr hw hl
  have fx : gFx X p s m args meth c cX3_keep 2 RX3 := fx
  have hl : lv_has ls 2 [(0, .ref x0), (1, .ref x1)] := hl
  have hok : gOk (f_X3_keep τ n x0 x1 G) (fun q => q = G') := ⟨_, h, rfl⟩
  unfold f_X3_keep at hok
  show W p l e rm_X3_keep s m args below meth c s.heap [] 0 0 (MQ below (gQ X τ none G') args s 0 0 (gFree X)) _
  refine lv_aload_n fx.1 fx.2.1 dX3_keep_0 rfl (lv_at hl 0 rfl) ?_
  refine g_getr fx hw h0 lf_RX3_11 rfl dX3_keep_1 hok (fun a1 h_a1 hok => ?_)
  refine lv_aload_n fx.1 fx.2.1 dX3_keep_4 rfl (lv_at hl 0 rfl) ?_
  refine g_geti fx hw h0 lf_RX3_18 rfl dX3_keep_5 ?_
  refine g_aald fx hw 16 4 h_a1 (by decide) (by decide) rfl (κ' := 6) rfl dX3_keep_8 hok (fun a2 h_a2 hok => ?_)
  refine lv_aload_n fx.1 fx.2.1 dX3_keep_9 rfl (lv_at hl 1 rfl) ?_
  obtain ⟨G3, hf, hok⟩ := gOk_bind hok
  refine g_callV0 (κ := 6) fx hw (c_X6_become l X τ n a2 x1 G h_a2 h1 hf) lv_RX3_22 ⟨rfl, rfl⟩ rfl rfl h_a2 rfl hl.1 rfl ⟨Nat.le_of_ble_eq_true rfl, Nat.le_of_ble_eq_true rfl⟩ (Nat.le_of_ble_eq_true rfl) ⟨Nat.le_of_ble_eq_true rfl, Nat.le_of_ble_eq_true rfl⟩ dX3_keep_10 (fun H locs hw => ?_)
  refine lv_aload_n fx.1 fx.2.1 dX3_keep_13 rfl (lv_at hl 0 rfl) ?_
  refine lv_aload_n fx.1 fx.2.1 dX3_keep_14 rfl (lv_at hl 0 rfl) ?_
  refine g_geti fx hw h0 lf_RX3_18 rfl dX3_keep_15 ?_
  refine lv_iconst (v := 1) fx.1 fx.2.1 dX3_keep_18 (by decide) ?_
  refine lv_iadd fx.1 fx.2.1 dX3_keep_19 ?_
  refine lv_bipush (v := 12) fx.1 fx.2.1 dX3_keep_20 (by decide) ?_
  refine lv_irem fx.1 fx.2.1 dX3_keep_22 (by decide) ?_
  refine g_puti fx hw h0 lp_RX3_18 rfl rfl dX3_keep_23 hok (fun G4 H locs hw hok => ?_)
  refine lv_aload_n fx.1 fx.2.1 dX3_keep_26 rfl (lv_at hl 0 rfl) ?_
  refine lv_aload_n fx.1 fx.2.1 dX3_keep_27 rfl (lv_at hl 0 rfl) ?_
  refine g_geti fx hw h0 lf_RX3_26 rfl dX3_keep_28 ?_
  refine lv_iconst (v := 1) fx.1 fx.2.1 dX3_keep_31 (by decide) ?_
  refine lv_iadd fx.1 fx.2.1 dX3_keep_32 ?_
  refine lv_bipush (v := 12) fx.1 fx.2.1 dX3_keep_33 (by decide) ?_
  refine g_mmin fx hl.1 lm_RX3_29 lmst_min lm_init lmco_min ⟨Nat.le_of_ble_eq_true rfl, Nat.le_of_ble_eq_true rfl, Nat.le_of_ble_eq_true rfl, Nat.le_of_ble_eq_true rfl⟩ dX3_keep_35 ?_
  refine g_puti fx hw h0 lp_RX3_26 rfl rfl dX3_keep_38 hok (fun G5 H locs hw hok => ?_)
  cases gOk_some hok
  exact g_vret fx hw hr dX3_keep_41
