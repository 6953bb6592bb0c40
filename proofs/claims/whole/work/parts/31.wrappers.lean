theorem dL_walk_0 : decode cL_walk 0 = .ok (.aload_n 1, 1) := by decide +kernel
theorem dL_walk_1 : decode cL_walk 1 = .ok (.iconst 0, 1) := by decide +kernel
theorem dL_walk_2 : decode cL_walk 2 = .ok (.aload_n 0, 1) := by decide +kernel
theorem dL_walk_3 : decode cL_walk 3 = .ok (.invokevirtual 7, 3) := by decide +kernel
theorem dL_walk_6 : decode cL_walk 6 = .ok (.i2l, 1) := by decide +kernel
theorem dL_walk_7 : decode cL_walk 7 = .ok (.lastore, 1) := by decide +kernel
theorem dL_walk_8 : decode cL_walk 8 = .ok (.goto 9, 3) := by decide +kernel
theorem dL_walk_11 : decode cL_walk 11 = .ok (.astore_n 2, 1) := by decide +kernel
theorem dL_walk_12 : decode cL_walk 12 = .ok (.iconst 1, 1) := by decide +kernel
theorem dL_walk_13 : decode cL_walk 13 = .ok (.ireturn, 1) := by decide +kernel
theorem dL_walk_14 : decode cL_walk 14 = .ok (.astore_n 2, 1) := by decide +kernel
theorem dL_walk_15 : decode cL_walk 15 = .ok (.iconst 2, 1) := by decide +kernel
theorem dL_walk_16 : decode cL_walk 16 = .ok (.ireturn, 1) := by decide +kernel
theorem dL_walk_17 : decode cL_walk 17 = .ok (.iconst 0, 1) := by decide +kernel
theorem dL_walk_18 : decode cL_walk 18 = .ok (.ireturn, 1) := by decide +kernel
def rm_L_walk : Room := { frames := 10, cells := 1, slots := 6, locals := 292 }
def hh_L_walk : List (Nat × Nat × Nat × Nat) := [(0, 8, 11, 13), (0, 8, 14, 15)]
def f_L_walk (τ : gτ) (n : Nat) (x0 : Nat)  (o : Nat) (G : gG) : Option (Int32 × gG) :=
  gTry (f_X10_walk τ n x0 G) [x_IAE, x_UOE] fun v G => gchk (gIn 0 (gn τ o)) <| some (0, gsl G o 0 v.toInt64)
theorem lv_RL_7 : gLv RL 7 RX10 yX10_walk cX10_walk 3 (some .int) 0 := gLv_of (wA_t (wt3 (List.mem_of_getElem? (i := 145) (by decide +kernel))) (by decide +kernel)) (wA_t (wt3 (List.mem_of_getElem? (i := 146) (by decide +kernel))) (by decide +kernel)) (wA_t (wt3 (List.mem_of_getElem? (i := 147) (by decide +kernel))) (by decide +kernel)) (wA_t (wt1 (List.mem_of_getElem? (i := 1) (by decide +kernel))) (by decide +kernel)) (wA_t (wt3 (List.mem_of_getElem? (i := 148) (by decide +kernel))) (by decide +kernel)) ⟨rfl, by decide +kernel, by decide +kernel, by decide +kernel⟩
theorem lcl_13 : Cond.classLink RL 13 x_IAE ∈ wA := wA_t (wt3 (List.mem_of_getElem? (i := 143) (by decide +kernel))) (by decide +kernel)
theorem lca_13 : Cond.castable x_IAE x_IAE ∈ lw_tbl := List.mem_append_right _ (wt4 (List.mem_of_getElem? (i := 73) (by decide +kernel)))
theorem lcl_15 : Cond.classLink RL 15 x_UOE ∈ wA := wA_t (wt3 (List.mem_of_getElem? (i := 144) (by decide +kernel))) (by decide +kernel)
theorem lca_15 : Cond.castable x_UOE x_UOE ∈ lw_tbl := List.mem_append_right _ (wt4 (List.mem_of_getElem? (i := 143) (by decide +kernel)))
set_option maxHeartbeats 4000000 in
set_option maxRecDepth 100000 in
theorem c_L_walk (l : Launch) (X : gX) (τ : gτ) (n : Nat) (hS : gS0 l X) (hN : gS1 X) (x0 : Nat)  (o : Nat) (G : gG) (h0 : gK τ x0 10) (ho : gK τ o 18) {r : Int32} {G' : gG} (h : f_L_walk τ n x0  o G = some (r, G')) : gMW l X τ yL_walk cL_walk 3 (some .int) hh_L_walk rm_L_walk [.ref x0, .ref o] G (some (.int r)) G' := by
  refine g_bodyW (by decide +kernel) (Nat.le_of_ble_eq_true rfl) ?_
  intro p e s m args below meth c ls fx hr hxt hw hl
  have fx : gFx X p s m args meth c cL_walk 3 RL := fx
  have hl : lv_has ls 3 [(0, .ref x0), (1, .ref o)] := hl
  show W p l e rm_L_walk s m args below meth c s.heap [] 0 0 (MQ below (gQ X τ (some (.int r)) G') args s rm_L_walk.cells rm_L_walk.slots (gFree X)) _
  unfold f_L_walk gTry at h
  refine lv_aload_n fx.1 fx.2.1 dL_walk_0 rfl (lv_at hl 1 rfl) ?_
  refine lv_iconst (v := 0) fx.1 fx.2.1 dL_walk_1 (by decide) ?_
  refine lv_aload_n fx.1 fx.2.1 dL_walk_2 rfl (lv_at hl 0 rfl) ?_
  cases hf : f_X10_walk τ n x0 G with
  | none => rw [hf] at h; cases h
  | some q =>
    obtain ⟨ov, G1⟩ := q
    rw [hf] at h
    cases ov with
    | inr v =>
      have hok : gOk (ρ := Int32 × gG) (gchk (gIn 0 (gn τ o)) (some (0, gsl G1 o 0 v.toInt64))) (fun q => q = (r, G')) := ⟨_, h, rfl⟩
      obtain ⟨hin, hok⟩ := gOk_chk hok
      refine g_callVC (κ := 10) (As := []) (rest := [.int 0, .ref o]) fx hw (c_X10_walk l X τ n hS x0 G h0 hf) lv_RL_7 rfl rfl h0 rfl hl.1 rfl ⟨Nat.le_of_ble_eq_true rfl, Nat.le_of_ble_eq_true rfl⟩ (Nat.le_of_ble_eq_true rfl) ⟨Nat.le_of_ble_eq_true rfl, Nat.le_of_ble_eq_true rfl⟩ dL_walk_3 (fun u9 H locs hv hw => ?_) (fun E9 q9 ce H locs hE => by have hE : (Sum.inr (some (.int v)) : String ⊕ Option Value) = Sum.inl E9 := hE; cases hE)
      have hv : (Sum.inr (some (.int v)) : String ⊕ Option Value) = Sum.inr u9 := hv
      cases hv
      cases gOk_some hok
      refine lv_i2l (v := v.toInt64) fx.1 fx.2.1 dL_walk_6 rfl ?_
      refine g_last fx hw ho hin dL_walk_7 (fun H locs hw => ?_)
      refine lv_goto (tgt := 17) fx.1 fx.2.1 dL_walk_8 (by decide) ?_
      refine lv_iconst (v := 0) fx.1 fx.2.1 dL_walk_17 (by decide) ?_
      exact g_iret fx hw hr dL_walk_18
    | inl E =>
      refine g_callVC (κ := 10) (As := []) (rest := [.int 0, .ref o]) fx hw (c_X10_walk l X τ n hS x0 G h0 hf) lv_RL_7 rfl rfl h0 rfl hl.1 rfl ⟨Nat.le_of_ble_eq_true rfl, Nat.le_of_ble_eq_true rfl⟩ (Nat.le_of_ble_eq_true rfl) ⟨Nat.le_of_ble_eq_true rfl, Nat.le_of_ble_eq_true rfl⟩ dL_walk_3 (fun u9 H locs hv => by have hv : (Sum.inl E : String ⊕ Option Value) = Sum.inr u9 := hv; cases hv) (fun E9 q9 ce H locs hE hw hce hcv hcl => ?_)
      have hE : (Sum.inl E : String ⊕ Option Value) = Sum.inl E9 := hE
      cases hE
      by_cases e0 : E = x_IAE
      · subst e0
        have h : some ((1 : Int32), G1) = some (r, G') := h
        cases h
        refine g_catch fx hS hN hxt [] ⟨0, 8, 11, 13⟩ [⟨0, 8, 14, 15⟩] rfl (fun z hz => by cases hz) (by decide) (by decide) lcl_13 lca_13 hce hcv hcl ?_
        refine lv_astore_n (lv' := (2, .ref q9) :: [(0, .ref x0), (1, .ref o)]) fx.1 fx.2.1 dL_walk_11 rfl hl (by decide) rfl (fun ls hl => ?_)
        refine lv_iconst (v := 1) fx.1 fx.2.1 dL_walk_12 (by decide) ?_
        exact g_iret fx hw hr dL_walk_13
      have h : (gCode [x_UOE] E 2).map (fun c => (c, G1)) = some (r, G') := by
        have h1 : (gCode (x_IAE :: [x_UOE]) E 1).map (fun c => (c, G1)) = some (r, G') := h
        rw [gCode, if_neg e0] at h1
        exact h1
      by_cases e1 : E = x_UOE
      · subst e1
        have h : some ((2 : Int32), G1) = some (r, G') := h
        cases h
        refine g_catch fx hS hN hxt [⟨0, 8, 11, 13⟩] ⟨0, 8, 14, 15⟩ [] rfl (by simp only [List.forall_mem_cons]; exact ⟨⟨by decide, x_IAE, lcl_13, by decide +kernel⟩, fun z hz => by cases hz⟩) (by decide) (by decide) lcl_15 lca_15 hce hcv hcl ?_
        refine lv_astore_n (lv' := (2, .ref q9) :: [(0, .ref x0), (1, .ref o)]) fx.1 fx.2.1 dL_walk_14 rfl hl (by decide) rfl (fun ls hl => ?_)
        refine lv_iconst (v := 2) fx.1 fx.2.1 dL_walk_15 (by decide) ?_
        exact g_iret fx hw hr dL_walk_16
      have h : (gCode [] E 3).map (fun c => (c, G1)) = some (r, G') := by
        have h1 : (gCode (x_UOE :: []) E 2).map (fun c => (c, G1)) = some (r, G') := h
        rw [gCode, if_neg e1] at h1
        exact h1
      cases h
theorem dL_law_0 : decode cL_law 0 = .ok (.aload_n 1, 1) := by decide +kernel
theorem dL_law_1 : decode cL_law 1 = .ok (.iconst 0, 1) := by decide +kernel
theorem dL_law_2 : decode cL_law 2 = .ok (.aload_n 0, 1) := by decide +kernel
theorem dL_law_3 : decode cL_law 3 = .ok (.invokevirtual 17, 3) := by decide +kernel
theorem dL_law_6 : decode cL_law 6 = .ok (.i2l, 1) := by decide +kernel
theorem dL_law_7 : decode cL_law 7 = .ok (.lastore, 1) := by decide +kernel
theorem dL_law_8 : decode cL_law 8 = .ok (.goto 6, 3) := by decide +kernel
theorem dL_law_11 : decode cL_law 11 = .ok (.astore_n 2, 1) := by decide +kernel
theorem dL_law_12 : decode cL_law 12 = .ok (.iconst 1, 1) := by decide +kernel
theorem dL_law_13 : decode cL_law 13 = .ok (.ireturn, 1) := by decide +kernel
theorem dL_law_14 : decode cL_law 14 = .ok (.iconst 0, 1) := by decide +kernel
theorem dL_law_15 : decode cL_law 15 = .ok (.ireturn, 1) := by decide +kernel
def rm_L_law : Room := { frames := 39, cells := 1, slots := 6, locals := 1111 }
def hh_L_law : List (Nat × Nat × Nat × Nat) := [(0, 8, 11, 13)]
def f_L_law (τ : gτ) (n : Nat) (x0 : Nat)  (o : Nat) (G : gG) : Option (Int32 × gG) :=
  gTry (f_X10_law τ n x0 G) [x_IAE] fun v G => gchk (gIn 0 (gn τ o)) <| some (0, gsl G o 0 v.toInt64)
theorem lv_RL_17 : gLv RL 17 RX10 yX10_law cX10_law 3 (some .int) 0 := gLv_of (wA_t (wt4 (List.mem_of_getElem? (i := 160) (by decide +kernel))) (by decide +kernel)) (wA_t (wt4 (List.mem_of_getElem? (i := 161) (by decide +kernel))) (by decide +kernel)) (wA_t (wt4 (List.mem_of_getElem? (i := 162) (by decide +kernel))) (by decide +kernel)) (wA_t (wt1 (List.mem_of_getElem? (i := 1) (by decide +kernel))) (by decide +kernel)) (wA_t (wt4 (List.mem_of_getElem? (i := 163) (by decide +kernel))) (by decide +kernel)) ⟨rfl, by decide +kernel, by decide +kernel, by decide +kernel⟩
set_option maxHeartbeats 4000000 in
set_option maxRecDepth 100000 in
theorem c_L_law (l : Launch) (X : gX) (τ : gτ) (n : Nat) (hS : gS0 l X) (hN : gS1 X) (x0 : Nat)  (o : Nat) (G : gG) (h0 : gK τ x0 10) (ho : gK τ o 18) {r : Int32} {G' : gG} (h : f_L_law τ n x0  o G = some (r, G')) : gMW l X τ yL_law cL_law 3 (some .int) hh_L_law rm_L_law [.ref x0, .ref o] G (some (.int r)) G' := by
  refine g_bodyW (by decide +kernel) (Nat.le_of_ble_eq_true rfl) ?_
  intro p e s m args below meth c ls fx hr hxt hw hl
  have fx : gFx X p s m args meth c cL_law 3 RL := fx
  have hl : lv_has ls 3 [(0, .ref x0), (1, .ref o)] := hl
  show W p l e rm_L_law s m args below meth c s.heap [] 0 0 (MQ below (gQ X τ (some (.int r)) G') args s rm_L_law.cells rm_L_law.slots (gFree X)) _
  unfold f_L_law gTry at h
  refine lv_aload_n fx.1 fx.2.1 dL_law_0 rfl (lv_at hl 1 rfl) ?_
  refine lv_iconst (v := 0) fx.1 fx.2.1 dL_law_1 (by decide) ?_
  refine lv_aload_n fx.1 fx.2.1 dL_law_2 rfl (lv_at hl 0 rfl) ?_
  cases hf : f_X10_law τ n x0 G with
  | none => rw [hf] at h; cases h
  | some q =>
    obtain ⟨ov, G1⟩ := q
    rw [hf] at h
    cases ov with
    | inr v =>
      have hok : gOk (ρ := Int32 × gG) (gchk (gIn 0 (gn τ o)) (some (0, gsl G1 o 0 v.toInt64))) (fun q => q = (r, G')) := ⟨_, h, rfl⟩
      obtain ⟨hin, hok⟩ := gOk_chk hok
      refine g_callVC (κ := 10) (As := []) (rest := [.int 0, .ref o]) fx hw (c_X10_law l X τ n hS x0 G h0 hf) lv_RL_17 rfl rfl h0 rfl hl.1 rfl ⟨Nat.le_of_ble_eq_true rfl, Nat.le_of_ble_eq_true rfl⟩ (Nat.le_of_ble_eq_true rfl) ⟨Nat.le_of_ble_eq_true rfl, Nat.le_of_ble_eq_true rfl⟩ dL_law_3 (fun u9 H locs hv hw => ?_) (fun E9 q9 ce H locs hE => by have hE : (Sum.inr (some (.int v)) : String ⊕ Option Value) = Sum.inl E9 := hE; cases hE)
      have hv : (Sum.inr (some (.int v)) : String ⊕ Option Value) = Sum.inr u9 := hv
      cases hv
      cases gOk_some hok
      refine lv_i2l (v := v.toInt64) fx.1 fx.2.1 dL_law_6 rfl ?_
      refine g_last fx hw ho hin dL_law_7 (fun H locs hw => ?_)
      refine lv_goto (tgt := 14) fx.1 fx.2.1 dL_law_8 (by decide) ?_
      refine lv_iconst (v := 0) fx.1 fx.2.1 dL_law_14 (by decide) ?_
      exact g_iret fx hw hr dL_law_15
    | inl E =>
      refine g_callVC (κ := 10) (As := []) (rest := [.int 0, .ref o]) fx hw (c_X10_law l X τ n hS x0 G h0 hf) lv_RL_17 rfl rfl h0 rfl hl.1 rfl ⟨Nat.le_of_ble_eq_true rfl, Nat.le_of_ble_eq_true rfl⟩ (Nat.le_of_ble_eq_true rfl) ⟨Nat.le_of_ble_eq_true rfl, Nat.le_of_ble_eq_true rfl⟩ dL_law_3 (fun u9 H locs hv => by have hv : (Sum.inl E : String ⊕ Option Value) = Sum.inr u9 := hv; cases hv) (fun E9 q9 ce H locs hE hw hce hcv hcl => ?_)
      have hE : (Sum.inl E : String ⊕ Option Value) = Sum.inl E9 := hE
      cases hE
      by_cases e0 : E = x_IAE
      · subst e0
        have h : some ((1 : Int32), G1) = some (r, G') := h
        cases h
        refine g_catch fx hS hN hxt [] ⟨0, 8, 11, 13⟩ [] rfl (fun z hz => by cases hz) (by decide) (by decide) lcl_13 lca_13 hce hcv hcl ?_
        refine lv_astore_n (lv' := (2, .ref q9) :: [(0, .ref x0), (1, .ref o)]) fx.1 fx.2.1 dL_law_11 rfl hl (by decide) rfl (fun ls hl => ?_)
        refine lv_iconst (v := 1) fx.1 fx.2.1 dL_law_12 (by decide) ?_
        exact g_iret fx hw hr dL_law_13
      have h : (gCode [] E 2).map (fun c => (c, G1)) = some (r, G') := by
        have h1 : (gCode (x_IAE :: []) E 1).map (fun c => (c, G1)) = some (r, G') := h
        rw [gCode, if_neg e0] at h1
        exact h1
      cases h
theorem dL_yarn_0 : decode cL_yarn 0 = .ok (.aload_n 3, 1) := by decide +kernel
theorem dL_yarn_1 : decode cL_yarn 1 = .ok (.iconst 0, 1) := by decide +kernel
theorem dL_yarn_2 : decode cL_yarn 2 = .ok (.aload_n 0, 1) := by decide +kernel
theorem dL_yarn_3 : decode cL_yarn 3 = .ok (.iload_n 1, 1) := by decide +kernel
theorem dL_yarn_4 : decode cL_yarn 4 = .ok (.iload_n 2, 1) := by decide +kernel
theorem dL_yarn_5 : decode cL_yarn 5 = .ok (.invokevirtual 20, 3) := by decide +kernel
theorem dL_yarn_8 : decode cL_yarn 8 = .ok (.i2l, 1) := by decide +kernel
theorem dL_yarn_9 : decode cL_yarn 9 = .ok (.lastore, 1) := by decide +kernel
theorem dL_yarn_10 : decode cL_yarn 10 = .ok (.goto 11, 3) := by decide +kernel
theorem dL_yarn_13 : decode cL_yarn 13 = .ok (.astore 4, 2) := by decide +kernel
theorem dL_yarn_15 : decode cL_yarn 15 = .ok (.iconst 1, 1) := by decide +kernel
theorem dL_yarn_16 : decode cL_yarn 16 = .ok (.ireturn, 1) := by decide +kernel
theorem dL_yarn_17 : decode cL_yarn 17 = .ok (.astore 4, 2) := by decide +kernel
theorem dL_yarn_19 : decode cL_yarn 19 = .ok (.iconst 2, 1) := by decide +kernel
theorem dL_yarn_20 : decode cL_yarn 20 = .ok (.ireturn, 1) := by decide +kernel
theorem dL_yarn_21 : decode cL_yarn 21 = .ok (.iconst 0, 1) := by decide +kernel
theorem dL_yarn_22 : decode cL_yarn 22 = .ok (.ireturn, 1) := by decide +kernel
def rm_L_yarn : Room := { frames := 8, cells := 2, slots := 12, locals := 164 }
def hh_L_yarn : List (Nat × Nat × Nat × Nat) := [(0, 10, 13, 24), (0, 10, 17, 26)]
def f_L_yarn (τ : gτ) (n : Nat) (x0 : Nat) (x1 : Int32) (x2 : Int32) (o : Nat) (G : gG) : Option (Int32 × gG) :=
  gTry (f_X10_yarn τ n x0 x1 x2 G) [x_IOE, x_NSE] fun v G => gchk (gIn 0 (gn τ o)) <| some (0, gsl G o 0 v.toInt64)
theorem lv_RL_20 : gLv RL 20 RX10 yX10_yarn cX10_yarn 4 (some .int) 2 := gLv_of (wA_t (wt4 (List.mem_of_getElem? (i := 238) (by decide +kernel))) (by decide +kernel)) (wA_t (wt4 (List.mem_of_getElem? (i := 239) (by decide +kernel))) (by decide +kernel)) (wA_t (wt5 (List.mem_of_getElem? (i := 0) (by decide +kernel))) (by decide +kernel)) (wA_t (wt1 (List.mem_of_getElem? (i := 1) (by decide +kernel))) (by decide +kernel)) (wA_t (wt5 (List.mem_of_getElem? (i := 1) (by decide +kernel))) (by decide +kernel)) ⟨rfl, by decide +kernel, by decide +kernel, by decide +kernel⟩
theorem lcl_24 : Cond.classLink RL 24 x_IOE ∈ wA := wA_t (wt4 (List.mem_of_getElem? (i := 236) (by decide +kernel))) (by decide +kernel)
theorem lca_24 : Cond.castable x_IOE x_IOE ∈ lw_tbl := List.mem_append_right _ (wt5 (List.mem_of_getElem? (i := 8) (by decide +kernel)))
theorem lcl_26 : Cond.classLink RL 26 x_NSE ∈ wA := wA_t (wt4 (List.mem_of_getElem? (i := 237) (by decide +kernel))) (by decide +kernel)
theorem lca_26 : Cond.castable x_NSE x_NSE ∈ lw_tbl := List.mem_append_right _ (wt5 (List.mem_of_getElem? (i := 36) (by decide +kernel)))
set_option maxHeartbeats 4000000 in
set_option maxRecDepth 100000 in
theorem c_L_yarn (l : Launch) (X : gX) (τ : gτ) (n : Nat) (hS : gS0 l X) (hN : gS1 X) (x0 : Nat) (x1 : Int32) (x2 : Int32) (o : Nat) (G : gG) (h0 : gK τ x0 10) (ho : gK τ o 18) {r : Int32} {G' : gG} (h : f_L_yarn τ n x0 x1 x2 o G = some (r, G')) : gMW l X τ yL_yarn cL_yarn 5 (some .int) hh_L_yarn rm_L_yarn [.ref x0, .int x1, .int x2, .ref o] G (some (.int r)) G' := by
  refine g_bodyW (by decide +kernel) (Nat.le_of_ble_eq_true rfl) ?_
  intro p e s m args below meth c ls fx hr hxt hw hl
  have fx : gFx X p s m args meth c cL_yarn 5 RL := fx
  have hl : lv_has ls 5 [(0, .ref x0), (1, .int x1), (2, .int x2), (3, .ref o)] := hl
  show W p l e rm_L_yarn s m args below meth c s.heap [] 0 0 (MQ below (gQ X τ (some (.int r)) G') args s rm_L_yarn.cells rm_L_yarn.slots (gFree X)) _
  unfold f_L_yarn gTry at h
  refine lv_aload_n fx.1 fx.2.1 dL_yarn_0 rfl (lv_at hl 3 rfl) ?_
  refine lv_iconst (v := 0) fx.1 fx.2.1 dL_yarn_1 (by decide) ?_
  refine lv_aload_n fx.1 fx.2.1 dL_yarn_2 rfl (lv_at hl 0 rfl) ?_
  refine lv_iload_n fx.1 fx.2.1 dL_yarn_3 rfl (lv_at hl 1 rfl) ?_
  refine lv_iload_n fx.1 fx.2.1 dL_yarn_4 rfl (lv_at hl 2 rfl) ?_
  cases hf : f_X10_yarn τ n x0 x1 x2 G with
  | none => rw [hf] at h; cases h
  | some q =>
    obtain ⟨ov, G1⟩ := q
    rw [hf] at h
    cases ov with
    | inr v =>
      have hok : gOk (ρ := Int32 × gG) (gchk (gIn 0 (gn τ o)) (some (0, gsl G1 o 0 v.toInt64))) (fun q => q = (r, G')) := ⟨_, h, rfl⟩
      obtain ⟨hin, hok⟩ := gOk_chk hok
      refine g_callVC (κ := 10) (As := [.int x1, .int x2]) (rest := [.int 0, .ref o]) fx hw (c_X10_yarn l X τ n hS x0 x1 x2 G h0 hf) lv_RL_20 rfl rfl h0 rfl hl.1 rfl ⟨Nat.le_of_ble_eq_true rfl, Nat.le_of_ble_eq_true rfl⟩ (Nat.le_of_ble_eq_true rfl) ⟨Nat.le_of_ble_eq_true rfl, Nat.le_of_ble_eq_true rfl⟩ dL_yarn_5 (fun u9 H locs hv hw => ?_) (fun E9 q9 ce H locs hE => by have hE : (Sum.inr (some (.int v)) : String ⊕ Option Value) = Sum.inl E9 := hE; cases hE)
      have hv : (Sum.inr (some (.int v)) : String ⊕ Option Value) = Sum.inr u9 := hv
      cases hv
      cases gOk_some hok
      refine lv_i2l (v := v.toInt64) fx.1 fx.2.1 dL_yarn_8 rfl ?_
      refine g_last fx hw ho hin dL_yarn_9 (fun H locs hw => ?_)
      refine lv_goto (tgt := 21) fx.1 fx.2.1 dL_yarn_10 (by decide) ?_
      refine lv_iconst (v := 0) fx.1 fx.2.1 dL_yarn_21 (by decide) ?_
      exact g_iret fx hw hr dL_yarn_22
    | inl E =>
      refine g_callVC (κ := 10) (As := [.int x1, .int x2]) (rest := [.int 0, .ref o]) fx hw (c_X10_yarn l X τ n hS x0 x1 x2 G h0 hf) lv_RL_20 rfl rfl h0 rfl hl.1 rfl ⟨Nat.le_of_ble_eq_true rfl, Nat.le_of_ble_eq_true rfl⟩ (Nat.le_of_ble_eq_true rfl) ⟨Nat.le_of_ble_eq_true rfl, Nat.le_of_ble_eq_true rfl⟩ dL_yarn_5 (fun u9 H locs hv => by have hv : (Sum.inl E : String ⊕ Option Value) = Sum.inr u9 := hv; cases hv) (fun E9 q9 ce H locs hE hw hce hcv hcl => ?_)
      have hE : (Sum.inl E : String ⊕ Option Value) = Sum.inl E9 := hE
      cases hE
      by_cases e0 : E = x_IOE
      · subst e0
        have h : some ((1 : Int32), G1) = some (r, G') := h
        cases h
        refine g_catch fx hS hN hxt [] ⟨0, 10, 13, 24⟩ [⟨0, 10, 17, 26⟩] rfl (fun z hz => by cases hz) (by decide) (by decide) lcl_24 lca_24 hce hcv hcl ?_
        refine lv_astore (lv' := (4, .ref q9) :: [(0, .ref x0), (1, .int x1), (2, .int x2), (3, .ref o)]) fx.1 fx.2.1 dL_yarn_13 hl (by decide) rfl (fun ls hl => ?_)
        refine lv_iconst (v := 1) fx.1 fx.2.1 dL_yarn_15 (by decide) ?_
        exact g_iret fx hw hr dL_yarn_16
      have h : (gCode [x_NSE] E 2).map (fun c => (c, G1)) = some (r, G') := by
        have h1 : (gCode (x_IOE :: [x_NSE]) E 1).map (fun c => (c, G1)) = some (r, G') := h
        rw [gCode, if_neg e0] at h1
        exact h1
      by_cases e1 : E = x_NSE
      · subst e1
        have h : some ((2 : Int32), G1) = some (r, G') := h
        cases h
        refine g_catch fx hS hN hxt [⟨0, 10, 13, 24⟩] ⟨0, 10, 17, 26⟩ [] rfl (by simp only [List.forall_mem_cons]; exact ⟨⟨by decide, x_IOE, lcl_24, by decide +kernel⟩, fun z hz => by cases hz⟩) (by decide) (by decide) lcl_26 lca_26 hce hcv hcl ?_
        refine lv_astore (lv' := (4, .ref q9) :: [(0, .ref x0), (1, .int x1), (2, .int x2), (3, .ref o)]) fx.1 fx.2.1 dL_yarn_17 hl (by decide) rfl (fun ls hl => ?_)
        refine lv_iconst (v := 2) fx.1 fx.2.1 dL_yarn_19 (by decide) ?_
        exact g_iret fx hw hr dL_yarn_20
      have h : (gCode [] E 3).map (fun c => (c, G1)) = some (r, G') := by
        have h1 : (gCode (x_NSE :: []) E 2).map (fun c => (c, G1)) = some (r, G') := h
        rw [gCode, if_neg e1] at h1
        exact h1
      cases h
theorem dL_rope_0 : decode cL_rope 0 = .ok (.aload_n 3, 1) := by decide +kernel
theorem dL_rope_1 : decode cL_rope 1 = .ok (.iconst 0, 1) := by decide +kernel
theorem dL_rope_2 : decode cL_rope 2 = .ok (.aload_n 0, 1) := by decide +kernel
theorem dL_rope_3 : decode cL_rope 3 = .ok (.iload_n 1, 1) := by decide +kernel
theorem dL_rope_4 : decode cL_rope 4 = .ok (.iload_n 2, 1) := by decide +kernel
theorem dL_rope_5 : decode cL_rope 5 = .ok (.invokevirtual 28, 3) := by decide +kernel
theorem dL_rope_8 : decode cL_rope 8 = .ok (.i2l, 1) := by decide +kernel
theorem dL_rope_9 : decode cL_rope 9 = .ok (.lastore, 1) := by decide +kernel
theorem dL_rope_10 : decode cL_rope 10 = .ok (.goto 11, 3) := by decide +kernel
theorem dL_rope_13 : decode cL_rope 13 = .ok (.astore 4, 2) := by decide +kernel
theorem dL_rope_15 : decode cL_rope 15 = .ok (.iconst 1, 1) := by decide +kernel
theorem dL_rope_16 : decode cL_rope 16 = .ok (.ireturn, 1) := by decide +kernel
theorem dL_rope_17 : decode cL_rope 17 = .ok (.astore 4, 2) := by decide +kernel
theorem dL_rope_19 : decode cL_rope 19 = .ok (.iconst 2, 1) := by decide +kernel
theorem dL_rope_20 : decode cL_rope 20 = .ok (.ireturn, 1) := by decide +kernel
theorem dL_rope_21 : decode cL_rope 21 = .ok (.iconst 0, 1) := by decide +kernel
theorem dL_rope_22 : decode cL_rope 22 = .ok (.ireturn, 1) := by decide +kernel
def rm_L_rope : Room := { frames := 8, cells := 2, slots := 12, locals := 164 }
def hh_L_rope : List (Nat × Nat × Nat × Nat) := [(0, 10, 13, 24), (0, 10, 17, 26)]
def f_L_rope (τ : gτ) (n : Nat) (x0 : Nat) (x1 : Int32) (x2 : Int32) (o : Nat) (G : gG) : Option (Int32 × gG) :=
  gTry (f_X10_rope τ n x0 x1 x2 G) [x_IOE, x_NSE] fun v G => gchk (gIn 0 (gn τ o)) <| some (0, gsl G o 0 v.toInt64)
theorem lv_RL_28 : gLv RL 28 RX10 yX10_rope cX10_rope 4 (some .int) 2 := gLv_of (wA_t (wt5 (List.mem_of_getElem? (i := 53) (by decide +kernel))) (by decide +kernel)) (wA_t (wt5 (List.mem_of_getElem? (i := 54) (by decide +kernel))) (by decide +kernel)) (wA_t (wt5 (List.mem_of_getElem? (i := 55) (by decide +kernel))) (by decide +kernel)) (wA_t (wt1 (List.mem_of_getElem? (i := 1) (by decide +kernel))) (by decide +kernel)) (wA_t (wt5 (List.mem_of_getElem? (i := 56) (by decide +kernel))) (by decide +kernel)) ⟨rfl, by decide +kernel, by decide +kernel, by decide +kernel⟩
set_option maxHeartbeats 4000000 in
set_option maxRecDepth 100000 in
theorem c_L_rope (l : Launch) (X : gX) (τ : gτ) (n : Nat) (hS : gS0 l X) (hN : gS1 X) (x0 : Nat) (x1 : Int32) (x2 : Int32) (o : Nat) (G : gG) (h0 : gK τ x0 10) (ho : gK τ o 18) {r : Int32} {G' : gG} (h : f_L_rope τ n x0 x1 x2 o G = some (r, G')) : gMW l X τ yL_rope cL_rope 5 (some .int) hh_L_rope rm_L_rope [.ref x0, .int x1, .int x2, .ref o] G (some (.int r)) G' := by
  refine g_bodyW (by decide +kernel) (Nat.le_of_ble_eq_true rfl) ?_
  intro p e s m args below meth c ls fx hr hxt hw hl
  have fx : gFx X p s m args meth c cL_rope 5 RL := fx
  have hl : lv_has ls 5 [(0, .ref x0), (1, .int x1), (2, .int x2), (3, .ref o)] := hl
  show W p l e rm_L_rope s m args below meth c s.heap [] 0 0 (MQ below (gQ X τ (some (.int r)) G') args s rm_L_rope.cells rm_L_rope.slots (gFree X)) _
  unfold f_L_rope gTry at h
  refine lv_aload_n fx.1 fx.2.1 dL_rope_0 rfl (lv_at hl 3 rfl) ?_
  refine lv_iconst (v := 0) fx.1 fx.2.1 dL_rope_1 (by decide) ?_
  refine lv_aload_n fx.1 fx.2.1 dL_rope_2 rfl (lv_at hl 0 rfl) ?_
  refine lv_iload_n fx.1 fx.2.1 dL_rope_3 rfl (lv_at hl 1 rfl) ?_
  refine lv_iload_n fx.1 fx.2.1 dL_rope_4 rfl (lv_at hl 2 rfl) ?_
  cases hf : f_X10_rope τ n x0 x1 x2 G with
  | none => rw [hf] at h; cases h
  | some q =>
    obtain ⟨ov, G1⟩ := q
    rw [hf] at h
    cases ov with
    | inr v =>
      have hok : gOk (ρ := Int32 × gG) (gchk (gIn 0 (gn τ o)) (some (0, gsl G1 o 0 v.toInt64))) (fun q => q = (r, G')) := ⟨_, h, rfl⟩
      obtain ⟨hin, hok⟩ := gOk_chk hok
      refine g_callVC (κ := 10) (As := [.int x1, .int x2]) (rest := [.int 0, .ref o]) fx hw (c_X10_rope l X τ n hS x0 x1 x2 G h0 hf) lv_RL_28 rfl rfl h0 rfl hl.1 rfl ⟨Nat.le_of_ble_eq_true rfl, Nat.le_of_ble_eq_true rfl⟩ (Nat.le_of_ble_eq_true rfl) ⟨Nat.le_of_ble_eq_true rfl, Nat.le_of_ble_eq_true rfl⟩ dL_rope_5 (fun u9 H locs hv hw => ?_) (fun E9 q9 ce H locs hE => by have hE : (Sum.inr (some (.int v)) : String ⊕ Option Value) = Sum.inl E9 := hE; cases hE)
      have hv : (Sum.inr (some (.int v)) : String ⊕ Option Value) = Sum.inr u9 := hv
      cases hv
      cases gOk_some hok
      refine lv_i2l (v := v.toInt64) fx.1 fx.2.1 dL_rope_8 rfl ?_
      refine g_last fx hw ho hin dL_rope_9 (fun H locs hw => ?_)
      refine lv_goto (tgt := 21) fx.1 fx.2.1 dL_rope_10 (by decide) ?_
      refine lv_iconst (v := 0) fx.1 fx.2.1 dL_rope_21 (by decide) ?_
      exact g_iret fx hw hr dL_rope_22
    | inl E =>
      refine g_callVC (κ := 10) (As := [.int x1, .int x2]) (rest := [.int 0, .ref o]) fx hw (c_X10_rope l X τ n hS x0 x1 x2 G h0 hf) lv_RL_28 rfl rfl h0 rfl hl.1 rfl ⟨Nat.le_of_ble_eq_true rfl, Nat.le_of_ble_eq_true rfl⟩ (Nat.le_of_ble_eq_true rfl) ⟨Nat.le_of_ble_eq_true rfl, Nat.le_of_ble_eq_true rfl⟩ dL_rope_5 (fun u9 H locs hv => by have hv : (Sum.inl E : String ⊕ Option Value) = Sum.inr u9 := hv; cases hv) (fun E9 q9 ce H locs hE hw hce hcv hcl => ?_)
      have hE : (Sum.inl E : String ⊕ Option Value) = Sum.inl E9 := hE
      cases hE
      by_cases e0 : E = x_IOE
      · subst e0
        have h : some ((1 : Int32), G1) = some (r, G') := h
        cases h
        refine g_catch fx hS hN hxt [] ⟨0, 10, 13, 24⟩ [⟨0, 10, 17, 26⟩] rfl (fun z hz => by cases hz) (by decide) (by decide) lcl_24 lca_24 hce hcv hcl ?_
        refine lv_astore (lv' := (4, .ref q9) :: [(0, .ref x0), (1, .int x1), (2, .int x2), (3, .ref o)]) fx.1 fx.2.1 dL_rope_13 hl (by decide) rfl (fun ls hl => ?_)
        refine lv_iconst (v := 1) fx.1 fx.2.1 dL_rope_15 (by decide) ?_
        exact g_iret fx hw hr dL_rope_16
      have h : (gCode [x_NSE] E 2).map (fun c => (c, G1)) = some (r, G') := by
        have h1 : (gCode (x_IOE :: [x_NSE]) E 1).map (fun c => (c, G1)) = some (r, G') := h
        rw [gCode, if_neg e0] at h1
        exact h1
      by_cases e1 : E = x_NSE
      · subst e1
        have h : some ((2 : Int32), G1) = some (r, G') := h
        cases h
        refine g_catch fx hS hN hxt [⟨0, 10, 13, 24⟩] ⟨0, 10, 17, 26⟩ [] rfl (by simp only [List.forall_mem_cons]; exact ⟨⟨by decide, x_IOE, lcl_24, by decide +kernel⟩, fun z hz => by cases hz⟩) (by decide) (by decide) lcl_26 lca_26 hce hcv hcl ?_
        refine lv_astore (lv' := (4, .ref q9) :: [(0, .ref x0), (1, .int x1), (2, .int x2), (3, .ref o)]) fx.1 fx.2.1 dL_rope_17 hl (by decide) rfl (fun ls hl => ?_)
        refine lv_iconst (v := 2) fx.1 fx.2.1 dL_rope_19 (by decide) ?_
        exact g_iret fx hw hr dL_rope_20
      have h : (gCode [] E 3).map (fun c => (c, G1)) = some (r, G') := by
        have h1 : (gCode (x_NSE :: []) E 2).map (fun c => (c, G1)) = some (r, G') := h
        rw [gCode, if_neg e1] at h1
        exact h1
      cases h
theorem dL_order_0 : decode cL_order 0 = .ok (.aload_n 3, 1) := by decide +kernel
theorem dL_order_1 : decode cL_order 1 = .ok (.iconst 0, 1) := by decide +kernel
theorem dL_order_2 : decode cL_order 2 = .ok (.aload_n 0, 1) := by decide +kernel
theorem dL_order_3 : decode cL_order 3 = .ok (.iload_n 1, 1) := by decide +kernel
theorem dL_order_4 : decode cL_order 4 = .ok (.iload_n 2, 1) := by decide +kernel
theorem dL_order_5 : decode cL_order 5 = .ok (.invokevirtual 31, 3) := by decide +kernel
theorem dL_order_8 : decode cL_order 8 = .ok (.i2l, 1) := by decide +kernel
theorem dL_order_9 : decode cL_order 9 = .ok (.lastore, 1) := by decide +kernel
theorem dL_order_10 : decode cL_order 10 = .ok (.goto 11, 3) := by decide +kernel
theorem dL_order_13 : decode cL_order 13 = .ok (.astore 4, 2) := by decide +kernel
theorem dL_order_15 : decode cL_order 15 = .ok (.iconst 1, 1) := by decide +kernel
theorem dL_order_16 : decode cL_order 16 = .ok (.ireturn, 1) := by decide +kernel
theorem dL_order_17 : decode cL_order 17 = .ok (.astore 4, 2) := by decide +kernel
theorem dL_order_19 : decode cL_order 19 = .ok (.iconst 2, 1) := by decide +kernel
theorem dL_order_20 : decode cL_order 20 = .ok (.ireturn, 1) := by decide +kernel
theorem dL_order_21 : decode cL_order 21 = .ok (.iconst 0, 1) := by decide +kernel
theorem dL_order_22 : decode cL_order 22 = .ok (.ireturn, 1) := by decide +kernel
def rm_L_order : Room := { frames := 8, cells := 2, slots := 12, locals := 164 }
def hh_L_order : List (Nat × Nat × Nat × Nat) := [(0, 10, 13, 24), (0, 10, 17, 26)]
def f_L_order (τ : gτ) (n : Nat) (x0 : Nat) (x1 : Int32) (x2 : Int32) (o : Nat) (G : gG) : Option (Int32 × gG) :=
  gTry (f_X10_order τ x0 x1 x2 G) [x_IOE, x_NSE] fun v G => gchk (gIn 0 (gn τ o)) <| some (0, gsl G o 0 v.toInt64)
theorem lv_RL_31 : gLv RL 31 RX10 yX10_order cX10_order 4 (some .int) 2 := gLv_of (wA_t (wt5 (List.mem_of_getElem? (i := 79) (by decide +kernel))) (by decide +kernel)) (wA_t (wt5 (List.mem_of_getElem? (i := 80) (by decide +kernel))) (by decide +kernel)) (wA_t (wt5 (List.mem_of_getElem? (i := 81) (by decide +kernel))) (by decide +kernel)) (wA_t (wt1 (List.mem_of_getElem? (i := 1) (by decide +kernel))) (by decide +kernel)) (wA_t (wt5 (List.mem_of_getElem? (i := 82) (by decide +kernel))) (by decide +kernel)) ⟨rfl, by decide +kernel, by decide +kernel, by decide +kernel⟩
set_option maxHeartbeats 4000000 in
set_option maxRecDepth 100000 in
theorem c_L_order (l : Launch) (X : gX) (τ : gτ) (n : Nat) (hS : gS0 l X) (hN : gS1 X) (x0 : Nat) (x1 : Int32) (x2 : Int32) (o : Nat) (G : gG) (h0 : gK τ x0 10) (ho : gK τ o 18) {r : Int32} {G' : gG} (h : f_L_order τ n x0 x1 x2 o G = some (r, G')) : gMW l X τ yL_order cL_order 5 (some .int) hh_L_order rm_L_order [.ref x0, .int x1, .int x2, .ref o] G (some (.int r)) G' := by
  refine g_bodyW (by decide +kernel) (Nat.le_of_ble_eq_true rfl) ?_
  intro p e s m args below meth c ls fx hr hxt hw hl
  have fx : gFx X p s m args meth c cL_order 5 RL := fx
  have hl : lv_has ls 5 [(0, .ref x0), (1, .int x1), (2, .int x2), (3, .ref o)] := hl
  show W p l e rm_L_order s m args below meth c s.heap [] 0 0 (MQ below (gQ X τ (some (.int r)) G') args s rm_L_order.cells rm_L_order.slots (gFree X)) _
  unfold f_L_order gTry at h
  refine lv_aload_n fx.1 fx.2.1 dL_order_0 rfl (lv_at hl 3 rfl) ?_
  refine lv_iconst (v := 0) fx.1 fx.2.1 dL_order_1 (by decide) ?_
  refine lv_aload_n fx.1 fx.2.1 dL_order_2 rfl (lv_at hl 0 rfl) ?_
  refine lv_iload_n fx.1 fx.2.1 dL_order_3 rfl (lv_at hl 1 rfl) ?_
  refine lv_iload_n fx.1 fx.2.1 dL_order_4 rfl (lv_at hl 2 rfl) ?_
  cases hf : f_X10_order τ x0 x1 x2 G with
  | none => rw [hf] at h; cases h
  | some q =>
    obtain ⟨ov, G1⟩ := q
    rw [hf] at h
    cases ov with
    | inr v =>
      have hok : gOk (ρ := Int32 × gG) (gchk (gIn 0 (gn τ o)) (some (0, gsl G1 o 0 v.toInt64))) (fun q => q = (r, G')) := ⟨_, h, rfl⟩
      obtain ⟨hin, hok⟩ := gOk_chk hok
      refine g_callVC (κ := 10) (As := [.int x1, .int x2]) (rest := [.int 0, .ref o]) fx hw (c_X10_order l X τ hS x0 x1 x2 G h0 hf) lv_RL_31 rfl rfl h0 rfl hl.1 rfl ⟨Nat.le_of_ble_eq_true rfl, Nat.le_of_ble_eq_true rfl⟩ (Nat.le_of_ble_eq_true rfl) ⟨Nat.le_of_ble_eq_true rfl, Nat.le_of_ble_eq_true rfl⟩ dL_order_5 (fun u9 H locs hv hw => ?_) (fun E9 q9 ce H locs hE => by have hE : (Sum.inr (some (.int v)) : String ⊕ Option Value) = Sum.inl E9 := hE; cases hE)
      have hv : (Sum.inr (some (.int v)) : String ⊕ Option Value) = Sum.inr u9 := hv
      cases hv
      cases gOk_some hok
      refine lv_i2l (v := v.toInt64) fx.1 fx.2.1 dL_order_8 rfl ?_
      refine g_last fx hw ho hin dL_order_9 (fun H locs hw => ?_)
      refine lv_goto (tgt := 21) fx.1 fx.2.1 dL_order_10 (by decide) ?_
      refine lv_iconst (v := 0) fx.1 fx.2.1 dL_order_21 (by decide) ?_
      exact g_iret fx hw hr dL_order_22
    | inl E =>
      refine g_callVC (κ := 10) (As := [.int x1, .int x2]) (rest := [.int 0, .ref o]) fx hw (c_X10_order l X τ hS x0 x1 x2 G h0 hf) lv_RL_31 rfl rfl h0 rfl hl.1 rfl ⟨Nat.le_of_ble_eq_true rfl, Nat.le_of_ble_eq_true rfl⟩ (Nat.le_of_ble_eq_true rfl) ⟨Nat.le_of_ble_eq_true rfl, Nat.le_of_ble_eq_true rfl⟩ dL_order_5 (fun u9 H locs hv => by have hv : (Sum.inl E : String ⊕ Option Value) = Sum.inr u9 := hv; cases hv) (fun E9 q9 ce H locs hE hw hce hcv hcl => ?_)
      have hE : (Sum.inl E : String ⊕ Option Value) = Sum.inl E9 := hE
      cases hE
      by_cases e0 : E = x_IOE
      · subst e0
        have h : some ((1 : Int32), G1) = some (r, G') := h
        cases h
        refine g_catch fx hS hN hxt [] ⟨0, 10, 13, 24⟩ [⟨0, 10, 17, 26⟩] rfl (fun z hz => by cases hz) (by decide) (by decide) lcl_24 lca_24 hce hcv hcl ?_
        refine lv_astore (lv' := (4, .ref q9) :: [(0, .ref x0), (1, .int x1), (2, .int x2), (3, .ref o)]) fx.1 fx.2.1 dL_order_13 hl (by decide) rfl (fun ls hl => ?_)
        refine lv_iconst (v := 1) fx.1 fx.2.1 dL_order_15 (by decide) ?_
        exact g_iret fx hw hr dL_order_16
      have h : (gCode [x_NSE] E 2).map (fun c => (c, G1)) = some (r, G') := by
        have h1 : (gCode (x_IOE :: [x_NSE]) E 1).map (fun c => (c, G1)) = some (r, G') := h
        rw [gCode, if_neg e0] at h1
        exact h1
      by_cases e1 : E = x_NSE
      · subst e1
        have h : some ((2 : Int32), G1) = some (r, G') := h
        cases h
        refine g_catch fx hS hN hxt [⟨0, 10, 13, 24⟩] ⟨0, 10, 17, 26⟩ [] rfl (by simp only [List.forall_mem_cons]; exact ⟨⟨by decide, x_IOE, lcl_24, by decide +kernel⟩, fun z hz => by cases hz⟩) (by decide) (by decide) lcl_26 lca_26 hce hcv hcl ?_
        refine lv_astore (lv' := (4, .ref q9) :: [(0, .ref x0), (1, .int x1), (2, .int x2), (3, .ref o)]) fx.1 fx.2.1 dL_order_17 hl (by decide) rfl (fun ls hl => ?_)
        refine lv_iconst (v := 2) fx.1 fx.2.1 dL_order_19 (by decide) ?_
        exact g_iret fx hw hr dL_order_20
      have h : (gCode [] E 3).map (fun c => (c, G1)) = some (r, G') := by
        have h1 : (gCode (x_NSE :: []) E 2).map (fun c => (c, G1)) = some (r, G') := h
        rw [gCode, if_neg e1] at h1
        exact h1
      cases h
theorem dL_bears_0 : decode cL_bears 0 = .ok (.aload 5, 2) := by decide +kernel
theorem dL_bears_2 : decode cL_bears 2 = .ok (.iconst 0, 1) := by decide +kernel
theorem dL_bears_3 : decode cL_bears 3 = .ok (.aload_n 0, 1) := by decide +kernel
theorem dL_bears_4 : decode cL_bears 4 = .ok (.iload_n 1, 1) := by decide +kernel
theorem dL_bears_5 : decode cL_bears 5 = .ok (.iload_n 2, 1) := by decide +kernel
theorem dL_bears_6 : decode cL_bears 6 = .ok (.iload_n 3, 1) := by decide +kernel
theorem dL_bears_7 : decode cL_bears 7 = .ok (.iload 4, 2) := by decide +kernel
theorem dL_bears_9 : decode cL_bears 9 = .ok (.invokevirtual 34, 3) := by decide +kernel
theorem dL_bears_12 : decode cL_bears 12 = .ok (.i2l, 1) := by decide +kernel
theorem dL_bears_13 : decode cL_bears 13 = .ok (.lastore, 1) := by decide +kernel
theorem dL_bears_14 : decode cL_bears 14 = .ok (.goto 11, 3) := by decide +kernel
theorem dL_bears_17 : decode cL_bears 17 = .ok (.astore 6, 2) := by decide +kernel
theorem dL_bears_19 : decode cL_bears 19 = .ok (.iconst 1, 1) := by decide +kernel
theorem dL_bears_20 : decode cL_bears 20 = .ok (.ireturn, 1) := by decide +kernel
theorem dL_bears_21 : decode cL_bears 21 = .ok (.astore 6, 2) := by decide +kernel
theorem dL_bears_23 : decode cL_bears 23 = .ok (.iconst 2, 1) := by decide +kernel
theorem dL_bears_24 : decode cL_bears 24 = .ok (.ireturn, 1) := by decide +kernel
theorem dL_bears_25 : decode cL_bears 25 = .ok (.iconst 0, 1) := by decide +kernel
theorem dL_bears_26 : decode cL_bears 26 = .ok (.ireturn, 1) := by decide +kernel
def rm_L_bears : Room := { frames := 9, cells := 5, slots := 30, locals := 188 }
def hh_L_bears : List (Nat × Nat × Nat × Nat) := [(0, 14, 17, 24), (0, 14, 21, 13)]
def f_L_bears (τ : gτ) (n : Nat) (x0 : Nat) (x1 : Int32) (x2 : Int32) (x3 : Int32) (x4 : Int32) (o : Nat) (G : gG) : Option (Int32 × gG) :=
  gTry (f_X10_bears τ n x0 x1 x2 x3 x4 G) [x_IOE, x_IAE] fun v G => gchk (gIn 0 (gn τ o)) <| some (0, gsl G o 0 v.toInt64)
theorem lv_RL_34 : gLv RL 34 RX10 yX10_bears cX10_bears 5 (some .int) 4 := gLv_of (wA_t (wt5 (List.mem_of_getElem? (i := 92) (by decide +kernel))) (by decide +kernel)) (wA_t (wt5 (List.mem_of_getElem? (i := 93) (by decide +kernel))) (by decide +kernel)) (wA_t (wt5 (List.mem_of_getElem? (i := 94) (by decide +kernel))) (by decide +kernel)) (wA_t (wt1 (List.mem_of_getElem? (i := 1) (by decide +kernel))) (by decide +kernel)) (wA_t (wt5 (List.mem_of_getElem? (i := 95) (by decide +kernel))) (by decide +kernel)) ⟨rfl, by decide +kernel, by decide +kernel, by decide +kernel⟩
set_option maxHeartbeats 4000000 in
set_option maxRecDepth 100000 in
theorem c_L_bears (l : Launch) (X : gX) (τ : gτ) (n : Nat) (hS : gS0 l X) (hN : gS1 X) (x0 : Nat) (x1 : Int32) (x2 : Int32) (x3 : Int32) (x4 : Int32) (o : Nat) (G : gG) (h0 : gK τ x0 10) (ho : gK τ o 18) {r : Int32} {G' : gG} (h : f_L_bears τ n x0 x1 x2 x3 x4 o G = some (r, G')) : gMW l X τ yL_bears cL_bears 7 (some .int) hh_L_bears rm_L_bears [.ref x0, .int x1, .int x2, .int x3, .int x4, .ref o] G (some (.int r)) G' := by
  refine g_bodyW (by decide +kernel) (Nat.le_of_ble_eq_true rfl) ?_
  intro p e s m args below meth c ls fx hr hxt hw hl
  have fx : gFx X p s m args meth c cL_bears 7 RL := fx
  have hl : lv_has ls 7 [(0, .ref x0), (1, .int x1), (2, .int x2), (3, .int x3), (4, .int x4), (5, .ref o)] := hl
  show W p l e rm_L_bears s m args below meth c s.heap [] 0 0 (MQ below (gQ X τ (some (.int r)) G') args s rm_L_bears.cells rm_L_bears.slots (gFree X)) _
  unfold f_L_bears gTry at h
  refine lv_aload fx.1 fx.2.1 dL_bears_0 (lv_at hl 5 rfl) ?_
  refine lv_iconst (v := 0) fx.1 fx.2.1 dL_bears_2 (by decide) ?_
  refine lv_aload_n fx.1 fx.2.1 dL_bears_3 rfl (lv_at hl 0 rfl) ?_
  refine lv_iload_n fx.1 fx.2.1 dL_bears_4 rfl (lv_at hl 1 rfl) ?_
  refine lv_iload_n fx.1 fx.2.1 dL_bears_5 rfl (lv_at hl 2 rfl) ?_
  refine lv_iload_n fx.1 fx.2.1 dL_bears_6 rfl (lv_at hl 3 rfl) ?_
  refine lv_iload fx.1 fx.2.1 dL_bears_7 (lv_at hl 4 rfl) ?_
  cases hf : f_X10_bears τ n x0 x1 x2 x3 x4 G with
  | none => rw [hf] at h; cases h
  | some q =>
    obtain ⟨ov, G1⟩ := q
    rw [hf] at h
    cases ov with
    | inr v =>
      have hok : gOk (ρ := Int32 × gG) (gchk (gIn 0 (gn τ o)) (some (0, gsl G1 o 0 v.toInt64))) (fun q => q = (r, G')) := ⟨_, h, rfl⟩
      obtain ⟨hin, hok⟩ := gOk_chk hok
      refine g_callVC (κ := 10) (As := [.int x1, .int x2, .int x3, .int x4]) (rest := [.int 0, .ref o]) fx hw (c_X10_bears l X τ n hS x0 x1 x2 x3 x4 G h0 hf) lv_RL_34 rfl rfl h0 rfl hl.1 rfl ⟨Nat.le_of_ble_eq_true rfl, Nat.le_of_ble_eq_true rfl⟩ (Nat.le_of_ble_eq_true rfl) ⟨Nat.le_of_ble_eq_true rfl, Nat.le_of_ble_eq_true rfl⟩ dL_bears_9 (fun u9 H locs hv hw => ?_) (fun E9 q9 ce H locs hE => by have hE : (Sum.inr (some (.int v)) : String ⊕ Option Value) = Sum.inl E9 := hE; cases hE)
      have hv : (Sum.inr (some (.int v)) : String ⊕ Option Value) = Sum.inr u9 := hv
      cases hv
      cases gOk_some hok
      refine lv_i2l (v := v.toInt64) fx.1 fx.2.1 dL_bears_12 rfl ?_
      refine g_last fx hw ho hin dL_bears_13 (fun H locs hw => ?_)
      refine lv_goto (tgt := 25) fx.1 fx.2.1 dL_bears_14 (by decide) ?_
      refine lv_iconst (v := 0) fx.1 fx.2.1 dL_bears_25 (by decide) ?_
      exact g_iret fx hw hr dL_bears_26
    | inl E =>
      refine g_callVC (κ := 10) (As := [.int x1, .int x2, .int x3, .int x4]) (rest := [.int 0, .ref o]) fx hw (c_X10_bears l X τ n hS x0 x1 x2 x3 x4 G h0 hf) lv_RL_34 rfl rfl h0 rfl hl.1 rfl ⟨Nat.le_of_ble_eq_true rfl, Nat.le_of_ble_eq_true rfl⟩ (Nat.le_of_ble_eq_true rfl) ⟨Nat.le_of_ble_eq_true rfl, Nat.le_of_ble_eq_true rfl⟩ dL_bears_9 (fun u9 H locs hv => by have hv : (Sum.inl E : String ⊕ Option Value) = Sum.inr u9 := hv; cases hv) (fun E9 q9 ce H locs hE hw hce hcv hcl => ?_)
      have hE : (Sum.inl E : String ⊕ Option Value) = Sum.inl E9 := hE
      cases hE
      by_cases e0 : E = x_IOE
      · subst e0
        have h : some ((1 : Int32), G1) = some (r, G') := h
        cases h
        refine g_catch fx hS hN hxt [] ⟨0, 14, 17, 24⟩ [⟨0, 14, 21, 13⟩] rfl (fun z hz => by cases hz) (by decide) (by decide) lcl_24 lca_24 hce hcv hcl ?_
        refine lv_astore (lv' := (6, .ref q9) :: [(0, .ref x0), (1, .int x1), (2, .int x2), (3, .int x3), (4, .int x4), (5, .ref o)]) fx.1 fx.2.1 dL_bears_17 hl (by decide) rfl (fun ls hl => ?_)
        refine lv_iconst (v := 1) fx.1 fx.2.1 dL_bears_19 (by decide) ?_
        exact g_iret fx hw hr dL_bears_20
      have h : (gCode [x_IAE] E 2).map (fun c => (c, G1)) = some (r, G') := by
        have h1 : (gCode (x_IOE :: [x_IAE]) E 1).map (fun c => (c, G1)) = some (r, G') := h
        rw [gCode, if_neg e0] at h1
        exact h1
      by_cases e1 : E = x_IAE
      · subst e1
        have h : some ((2 : Int32), G1) = some (r, G') := h
        cases h
        refine g_catch fx hS hN hxt [⟨0, 14, 17, 24⟩] ⟨0, 14, 21, 13⟩ [] rfl (by simp only [List.forall_mem_cons]; exact ⟨⟨by decide, x_IOE, lcl_24, by decide +kernel⟩, fun z hz => by cases hz⟩) (by decide) (by decide) lcl_13 lca_13 hce hcv hcl ?_
        refine lv_astore (lv' := (6, .ref q9) :: [(0, .ref x0), (1, .int x1), (2, .int x2), (3, .int x3), (4, .int x4), (5, .ref o)]) fx.1 fx.2.1 dL_bears_21 hl (by decide) rfl (fun ls hl => ?_)
        refine lv_iconst (v := 2) fx.1 fx.2.1 dL_bears_23 (by decide) ?_
        exact g_iret fx hw hr dL_bears_24
      have h : (gCode [] E 3).map (fun c => (c, G1)) = some (r, G') := by
        have h1 : (gCode (x_IAE :: []) E 2).map (fun c => (c, G1)) = some (r, G') := h
        rw [gCode, if_neg e1] at h1
        exact h1
      cases h
theorem dL_lay_0 : decode cL_lay 0 = .ok (.aload 5, 2) := by decide +kernel
theorem dL_lay_2 : decode cL_lay 2 = .ok (.iconst 0, 1) := by decide +kernel
theorem dL_lay_3 : decode cL_lay 3 = .ok (.aload_n 0, 1) := by decide +kernel
theorem dL_lay_4 : decode cL_lay 4 = .ok (.iload_n 1, 1) := by decide +kernel
theorem dL_lay_5 : decode cL_lay 5 = .ok (.iload_n 2, 1) := by decide +kernel
theorem dL_lay_6 : decode cL_lay 6 = .ok (.iload_n 3, 1) := by decide +kernel
theorem dL_lay_7 : decode cL_lay 7 = .ok (.iload 4, 2) := by decide +kernel
theorem dL_lay_9 : decode cL_lay 9 = .ok (.invokevirtual 38, 3) := by decide +kernel
theorem dL_lay_12 : decode cL_lay 12 = .ok (.i2l, 1) := by decide +kernel
theorem dL_lay_13 : decode cL_lay 13 = .ok (.lastore, 1) := by decide +kernel
theorem dL_lay_14 : decode cL_lay 14 = .ok (.goto 19, 3) := by decide +kernel
theorem dL_lay_17 : decode cL_lay 17 = .ok (.astore 6, 2) := by decide +kernel
theorem dL_lay_19 : decode cL_lay 19 = .ok (.iconst 1, 1) := by decide +kernel
theorem dL_lay_20 : decode cL_lay 20 = .ok (.ireturn, 1) := by decide +kernel
theorem dL_lay_21 : decode cL_lay 21 = .ok (.astore 6, 2) := by decide +kernel
theorem dL_lay_23 : decode cL_lay 23 = .ok (.iconst 2, 1) := by decide +kernel
theorem dL_lay_24 : decode cL_lay 24 = .ok (.ireturn, 1) := by decide +kernel
theorem dL_lay_25 : decode cL_lay 25 = .ok (.astore 6, 2) := by decide +kernel
theorem dL_lay_27 : decode cL_lay 27 = .ok (.iconst 3, 1) := by decide +kernel
theorem dL_lay_28 : decode cL_lay 28 = .ok (.ireturn, 1) := by decide +kernel
theorem dL_lay_29 : decode cL_lay 29 = .ok (.astore 6, 2) := by decide +kernel
theorem dL_lay_31 : decode cL_lay 31 = .ok (.iconst 4, 1) := by decide +kernel
theorem dL_lay_32 : decode cL_lay 32 = .ok (.ireturn, 1) := by decide +kernel
theorem dL_lay_33 : decode cL_lay 33 = .ok (.iconst 0, 1) := by decide +kernel
theorem dL_lay_34 : decode cL_lay 34 = .ok (.ireturn, 1) := by decide +kernel
def rm_L_lay : Room := { frames := 9, cells := 6, slots := 36, locals := 188 }
def hh_L_lay : List (Nat × Nat × Nat × Nat) := [(0, 14, 17, 24), (0, 14, 21, 13), (0, 14, 25, 41), (0, 14, 29, 15)]
def f_L_lay (τ : gτ) (n : Nat) (x0 : Nat) (x1 : Int32) (x2 : Int32) (x3 : Int32) (x4 : Int32) (o : Nat) (G : gG) : Option (Int32 × gG) :=
  gTry (f_X10_lay τ n x0 x1 x2 x3 x4 G) [x_IOE, x_IAE, x_ISE, x_UOE] fun v G => gchk (gIn 0 (gn τ o)) <| some (0, gsl G o 0 v.toInt64)
theorem lv_RL_38 : gLv RL 38 RX10 yX10_lay cX10_lay 5 (some .int) 4 := gLv_of (wA_t (wt5 (List.mem_of_getElem? (i := 109) (by decide +kernel))) (by decide +kernel)) (wA_t (wt5 (List.mem_of_getElem? (i := 110) (by decide +kernel))) (by decide +kernel)) (wA_t (wt5 (List.mem_of_getElem? (i := 111) (by decide +kernel))) (by decide +kernel)) (wA_t (wt1 (List.mem_of_getElem? (i := 1) (by decide +kernel))) (by decide +kernel)) (wA_t (wt5 (List.mem_of_getElem? (i := 112) (by decide +kernel))) (by decide +kernel)) ⟨rfl, by decide +kernel, by decide +kernel, by decide +kernel⟩
theorem lcl_41 : Cond.classLink RL 41 x_ISE ∈ wA := wA_t (wt5 (List.mem_of_getElem? (i := 108) (by decide +kernel))) (by decide +kernel)
theorem lca_41 : Cond.castable x_ISE x_ISE ∈ lw_tbl := List.mem_append_right _ (wt5 (List.mem_of_getElem? (i := 115) (by decide +kernel)))
set_option maxHeartbeats 4000000 in
set_option maxRecDepth 100000 in
theorem c_L_lay (l : Launch) (X : gX) (τ : gτ) (n : Nat) (hS : gS0 l X) (hN : gS1 X) (x0 : Nat) (x1 : Int32) (x2 : Int32) (x3 : Int32) (x4 : Int32) (o : Nat) (G : gG) (h0 : gK τ x0 10) (ho : gK τ o 18) {r : Int32} {G' : gG} (h : f_L_lay τ n x0 x1 x2 x3 x4 o G = some (r, G')) : gMW l X τ yL_lay cL_lay 7 (some .int) hh_L_lay rm_L_lay [.ref x0, .int x1, .int x2, .int x3, .int x4, .ref o] G (some (.int r)) G' := by
  refine g_bodyW (by decide +kernel) (Nat.le_of_ble_eq_true rfl) ?_
  intro p e s m args below meth c ls fx hr hxt hw hl
  have fx : gFx X p s m args meth c cL_lay 7 RL := fx
  have hl : lv_has ls 7 [(0, .ref x0), (1, .int x1), (2, .int x2), (3, .int x3), (4, .int x4), (5, .ref o)] := hl
  show W p l e rm_L_lay s m args below meth c s.heap [] 0 0 (MQ below (gQ X τ (some (.int r)) G') args s rm_L_lay.cells rm_L_lay.slots (gFree X)) _
  unfold f_L_lay gTry at h
  refine lv_aload fx.1 fx.2.1 dL_lay_0 (lv_at hl 5 rfl) ?_
  refine lv_iconst (v := 0) fx.1 fx.2.1 dL_lay_2 (by decide) ?_
  refine lv_aload_n fx.1 fx.2.1 dL_lay_3 rfl (lv_at hl 0 rfl) ?_
  refine lv_iload_n fx.1 fx.2.1 dL_lay_4 rfl (lv_at hl 1 rfl) ?_
  refine lv_iload_n fx.1 fx.2.1 dL_lay_5 rfl (lv_at hl 2 rfl) ?_
  refine lv_iload_n fx.1 fx.2.1 dL_lay_6 rfl (lv_at hl 3 rfl) ?_
  refine lv_iload fx.1 fx.2.1 dL_lay_7 (lv_at hl 4 rfl) ?_
  cases hf : f_X10_lay τ n x0 x1 x2 x3 x4 G with
  | none => rw [hf] at h; cases h
  | some q =>
    obtain ⟨ov, G1⟩ := q
    rw [hf] at h
    cases ov with
    | inr v =>
      have hok : gOk (ρ := Int32 × gG) (gchk (gIn 0 (gn τ o)) (some (0, gsl G1 o 0 v.toInt64))) (fun q => q = (r, G')) := ⟨_, h, rfl⟩
      obtain ⟨hin, hok⟩ := gOk_chk hok
      refine g_callVC (κ := 10) (As := [.int x1, .int x2, .int x3, .int x4]) (rest := [.int 0, .ref o]) fx hw (c_X10_lay l X τ n hS x0 x1 x2 x3 x4 G h0 hf) lv_RL_38 rfl rfl h0 rfl hl.1 rfl ⟨Nat.le_of_ble_eq_true rfl, Nat.le_of_ble_eq_true rfl⟩ (Nat.le_of_ble_eq_true rfl) ⟨Nat.le_of_ble_eq_true rfl, Nat.le_of_ble_eq_true rfl⟩ dL_lay_9 (fun u9 H locs hv hw => ?_) (fun E9 q9 ce H locs hE => by have hE : (Sum.inr (some (.int v)) : String ⊕ Option Value) = Sum.inl E9 := hE; cases hE)
      have hv : (Sum.inr (some (.int v)) : String ⊕ Option Value) = Sum.inr u9 := hv
      cases hv
      cases gOk_some hok
      refine lv_i2l (v := v.toInt64) fx.1 fx.2.1 dL_lay_12 rfl ?_
      refine g_last fx hw ho hin dL_lay_13 (fun H locs hw => ?_)
      refine lv_goto (tgt := 33) fx.1 fx.2.1 dL_lay_14 (by decide) ?_
      refine lv_iconst (v := 0) fx.1 fx.2.1 dL_lay_33 (by decide) ?_
      exact g_iret fx hw hr dL_lay_34
    | inl E =>
      refine g_callVC (κ := 10) (As := [.int x1, .int x2, .int x3, .int x4]) (rest := [.int 0, .ref o]) fx hw (c_X10_lay l X τ n hS x0 x1 x2 x3 x4 G h0 hf) lv_RL_38 rfl rfl h0 rfl hl.1 rfl ⟨Nat.le_of_ble_eq_true rfl, Nat.le_of_ble_eq_true rfl⟩ (Nat.le_of_ble_eq_true rfl) ⟨Nat.le_of_ble_eq_true rfl, Nat.le_of_ble_eq_true rfl⟩ dL_lay_9 (fun u9 H locs hv => by have hv : (Sum.inl E : String ⊕ Option Value) = Sum.inr u9 := hv; cases hv) (fun E9 q9 ce H locs hE hw hce hcv hcl => ?_)
      have hE : (Sum.inl E : String ⊕ Option Value) = Sum.inl E9 := hE
      cases hE
      by_cases e0 : E = x_IOE
      · subst e0
        have h : some ((1 : Int32), G1) = some (r, G') := h
        cases h
        refine g_catch fx hS hN hxt [] ⟨0, 14, 17, 24⟩ [⟨0, 14, 21, 13⟩, ⟨0, 14, 25, 41⟩, ⟨0, 14, 29, 15⟩] rfl (fun z hz => by cases hz) (by decide) (by decide) lcl_24 lca_24 hce hcv hcl ?_
        refine lv_astore (lv' := (6, .ref q9) :: [(0, .ref x0), (1, .int x1), (2, .int x2), (3, .int x3), (4, .int x4), (5, .ref o)]) fx.1 fx.2.1 dL_lay_17 hl (by decide) rfl (fun ls hl => ?_)
        refine lv_iconst (v := 1) fx.1 fx.2.1 dL_lay_19 (by decide) ?_
        exact g_iret fx hw hr dL_lay_20
      have h : (gCode [x_IAE, x_ISE, x_UOE] E 2).map (fun c => (c, G1)) = some (r, G') := by
        have h1 : (gCode (x_IOE :: [x_IAE, x_ISE, x_UOE]) E 1).map (fun c => (c, G1)) = some (r, G') := h
        rw [gCode, if_neg e0] at h1
        exact h1
      by_cases e1 : E = x_IAE
      · subst e1
        have h : some ((2 : Int32), G1) = some (r, G') := h
        cases h
        refine g_catch fx hS hN hxt [⟨0, 14, 17, 24⟩] ⟨0, 14, 21, 13⟩ [⟨0, 14, 25, 41⟩, ⟨0, 14, 29, 15⟩] rfl (by simp only [List.forall_mem_cons]; exact ⟨⟨by decide, x_IOE, lcl_24, by decide +kernel⟩, fun z hz => by cases hz⟩) (by decide) (by decide) lcl_13 lca_13 hce hcv hcl ?_
        refine lv_astore (lv' := (6, .ref q9) :: [(0, .ref x0), (1, .int x1), (2, .int x2), (3, .int x3), (4, .int x4), (5, .ref o)]) fx.1 fx.2.1 dL_lay_21 hl (by decide) rfl (fun ls hl => ?_)
        refine lv_iconst (v := 2) fx.1 fx.2.1 dL_lay_23 (by decide) ?_
        exact g_iret fx hw hr dL_lay_24
      have h : (gCode [x_ISE, x_UOE] E 3).map (fun c => (c, G1)) = some (r, G') := by
        have h1 : (gCode (x_IAE :: [x_ISE, x_UOE]) E 2).map (fun c => (c, G1)) = some (r, G') := h
        rw [gCode, if_neg e1] at h1
        exact h1
      by_cases e2 : E = x_ISE
      · subst e2
        have h : some ((3 : Int32), G1) = some (r, G') := h
        cases h
        refine g_catch fx hS hN hxt [⟨0, 14, 17, 24⟩, ⟨0, 14, 21, 13⟩] ⟨0, 14, 25, 41⟩ [⟨0, 14, 29, 15⟩] rfl (by simp only [List.forall_mem_cons]; exact ⟨⟨by decide, x_IOE, lcl_24, by decide +kernel⟩, ⟨by decide, x_IAE, lcl_13, by decide +kernel⟩, fun z hz => by cases hz⟩) (by decide) (by decide) lcl_41 lca_41 hce hcv hcl ?_
        refine lv_astore (lv' := (6, .ref q9) :: [(0, .ref x0), (1, .int x1), (2, .int x2), (3, .int x3), (4, .int x4), (5, .ref o)]) fx.1 fx.2.1 dL_lay_25 hl (by decide) rfl (fun ls hl => ?_)
        refine lv_iconst (v := 3) fx.1 fx.2.1 dL_lay_27 (by decide) ?_
        exact g_iret fx hw hr dL_lay_28
      have h : (gCode [x_UOE] E 4).map (fun c => (c, G1)) = some (r, G') := by
        have h1 : (gCode (x_ISE :: [x_UOE]) E 3).map (fun c => (c, G1)) = some (r, G') := h
        rw [gCode, if_neg e2] at h1
        exact h1
      by_cases e3 : E = x_UOE
      · subst e3
        have h : some ((4 : Int32), G1) = some (r, G') := h
        cases h
        refine g_catch fx hS hN hxt [⟨0, 14, 17, 24⟩, ⟨0, 14, 21, 13⟩, ⟨0, 14, 25, 41⟩] ⟨0, 14, 29, 15⟩ [] rfl (by simp only [List.forall_mem_cons]; exact ⟨⟨by decide, x_IOE, lcl_24, by decide +kernel⟩, ⟨by decide, x_IAE, lcl_13, by decide +kernel⟩, ⟨by decide, x_ISE, lcl_41, by decide +kernel⟩, fun z hz => by cases hz⟩) (by decide) (by decide) lcl_15 lca_15 hce hcv hcl ?_
        refine lv_astore (lv' := (6, .ref q9) :: [(0, .ref x0), (1, .int x1), (2, .int x2), (3, .int x3), (4, .int x4), (5, .ref o)]) fx.1 fx.2.1 dL_lay_29 hl (by decide) rfl (fun ls hl => ?_)
        refine lv_iconst (v := 4) fx.1 fx.2.1 dL_lay_31 (by decide) ?_
        exact g_iret fx hw hr dL_lay_32
      have h : (gCode [] E 5).map (fun c => (c, G1)) = some (r, G') := by
        have h1 : (gCode (x_UOE :: []) E 4).map (fun c => (c, G1)) = some (r, G') := h
        rw [gCode, if_neg e3] at h1
        exact h1
      cases h
theorem dL_tar_0 : decode cL_tar 0 = .ok (.aload_n 2, 1) := by decide +kernel
theorem dL_tar_1 : decode cL_tar 1 = .ok (.iconst 0, 1) := by decide +kernel
theorem dL_tar_2 : decode cL_tar 2 = .ok (.aload_n 0, 1) := by decide +kernel
theorem dL_tar_3 : decode cL_tar 3 = .ok (.iload_n 1, 1) := by decide +kernel
theorem dL_tar_4 : decode cL_tar 4 = .ok (.invokevirtual 43, 3) := by decide +kernel
theorem dL_tar_7 : decode cL_tar 7 = .ok (.i2l, 1) := by decide +kernel
theorem dL_tar_8 : decode cL_tar 8 = .ok (.lastore, 1) := by decide +kernel
theorem dL_tar_9 : decode cL_tar 9 = .ok (.goto 9, 3) := by decide +kernel
theorem dL_tar_12 : decode cL_tar 12 = .ok (.astore_n 3, 1) := by decide +kernel
theorem dL_tar_13 : decode cL_tar 13 = .ok (.iconst 1, 1) := by decide +kernel
theorem dL_tar_14 : decode cL_tar 14 = .ok (.ireturn, 1) := by decide +kernel
theorem dL_tar_15 : decode cL_tar 15 = .ok (.astore_n 3, 1) := by decide +kernel
theorem dL_tar_16 : decode cL_tar 16 = .ok (.iconst 2, 1) := by decide +kernel
theorem dL_tar_17 : decode cL_tar 17 = .ok (.ireturn, 1) := by decide +kernel
theorem dL_tar_18 : decode cL_tar 18 = .ok (.iconst 0, 1) := by decide +kernel
theorem dL_tar_19 : decode cL_tar 19 = .ok (.ireturn, 1) := by decide +kernel
def rm_L_tar : Room := { frames := 9, cells := 2, slots := 12, locals := 185 }
def hh_L_tar : List (Nat × Nat × Nat × Nat) := [(0, 9, 12, 24), (0, 9, 15, 41)]
def f_L_tar (τ : gτ) (n : Nat) (x0 : Nat) (x1 : Int32) (o : Nat) (G : gG) : Option (Int32 × gG) :=
  gTry (f_X10_tar τ n x0 x1 G) [x_IOE, x_ISE] fun v G => gchk (gIn 0 (gn τ o)) <| some (0, gsl G o 0 v.toInt64)
theorem lv_RL_43 : gLv RL 43 RX10 yX10_tar cX10_tar 3 (some .int) 1 := gLv_of (wA_t (wt5 (List.mem_of_getElem? (i := 143) (by decide +kernel))) (by decide +kernel)) (wA_t (wt5 (List.mem_of_getElem? (i := 144) (by decide +kernel))) (by decide +kernel)) (wA_t (wt5 (List.mem_of_getElem? (i := 145) (by decide +kernel))) (by decide +kernel)) (wA_t (wt1 (List.mem_of_getElem? (i := 1) (by decide +kernel))) (by decide +kernel)) (wA_t (wt5 (List.mem_of_getElem? (i := 146) (by decide +kernel))) (by decide +kernel)) ⟨rfl, by decide +kernel, by decide +kernel, by decide +kernel⟩
set_option maxHeartbeats 4000000 in
set_option maxRecDepth 100000 in
theorem c_L_tar (l : Launch) (X : gX) (τ : gτ) (n : Nat) (hS : gS0 l X) (hN : gS1 X) (x0 : Nat) (x1 : Int32) (o : Nat) (G : gG) (h0 : gK τ x0 10) (ho : gK τ o 18) {r : Int32} {G' : gG} (h : f_L_tar τ n x0 x1 o G = some (r, G')) : gMW l X τ yL_tar cL_tar 4 (some .int) hh_L_tar rm_L_tar [.ref x0, .int x1, .ref o] G (some (.int r)) G' := by
  refine g_bodyW (by decide +kernel) (Nat.le_of_ble_eq_true rfl) ?_
  intro p e s m args below meth c ls fx hr hxt hw hl
  have fx : gFx X p s m args meth c cL_tar 4 RL := fx
  have hl : lv_has ls 4 [(0, .ref x0), (1, .int x1), (2, .ref o)] := hl
  show W p l e rm_L_tar s m args below meth c s.heap [] 0 0 (MQ below (gQ X τ (some (.int r)) G') args s rm_L_tar.cells rm_L_tar.slots (gFree X)) _
  unfold f_L_tar gTry at h
  refine lv_aload_n fx.1 fx.2.1 dL_tar_0 rfl (lv_at hl 2 rfl) ?_
  refine lv_iconst (v := 0) fx.1 fx.2.1 dL_tar_1 (by decide) ?_
  refine lv_aload_n fx.1 fx.2.1 dL_tar_2 rfl (lv_at hl 0 rfl) ?_
  refine lv_iload_n fx.1 fx.2.1 dL_tar_3 rfl (lv_at hl 1 rfl) ?_
  cases hf : f_X10_tar τ n x0 x1 G with
  | none => rw [hf] at h; cases h
  | some q =>
    obtain ⟨ov, G1⟩ := q
    rw [hf] at h
    cases ov with
    | inr v =>
      have hok : gOk (ρ := Int32 × gG) (gchk (gIn 0 (gn τ o)) (some (0, gsl G1 o 0 v.toInt64))) (fun q => q = (r, G')) := ⟨_, h, rfl⟩
      obtain ⟨hin, hok⟩ := gOk_chk hok
      refine g_callVC (κ := 10) (As := [.int x1]) (rest := [.int 0, .ref o]) fx hw (c_X10_tar l X τ n hS x0 x1 G h0 hf) lv_RL_43 rfl rfl h0 rfl hl.1 rfl ⟨Nat.le_of_ble_eq_true rfl, Nat.le_of_ble_eq_true rfl⟩ (Nat.le_of_ble_eq_true rfl) ⟨Nat.le_of_ble_eq_true rfl, Nat.le_of_ble_eq_true rfl⟩ dL_tar_4 (fun u9 H locs hv hw => ?_) (fun E9 q9 ce H locs hE => by have hE : (Sum.inr (some (.int v)) : String ⊕ Option Value) = Sum.inl E9 := hE; cases hE)
      have hv : (Sum.inr (some (.int v)) : String ⊕ Option Value) = Sum.inr u9 := hv
      cases hv
      cases gOk_some hok
      refine lv_i2l (v := v.toInt64) fx.1 fx.2.1 dL_tar_7 rfl ?_
      refine g_last fx hw ho hin dL_tar_8 (fun H locs hw => ?_)
      refine lv_goto (tgt := 18) fx.1 fx.2.1 dL_tar_9 (by decide) ?_
      refine lv_iconst (v := 0) fx.1 fx.2.1 dL_tar_18 (by decide) ?_
      exact g_iret fx hw hr dL_tar_19
    | inl E =>
      refine g_callVC (κ := 10) (As := [.int x1]) (rest := [.int 0, .ref o]) fx hw (c_X10_tar l X τ n hS x0 x1 G h0 hf) lv_RL_43 rfl rfl h0 rfl hl.1 rfl ⟨Nat.le_of_ble_eq_true rfl, Nat.le_of_ble_eq_true rfl⟩ (Nat.le_of_ble_eq_true rfl) ⟨Nat.le_of_ble_eq_true rfl, Nat.le_of_ble_eq_true rfl⟩ dL_tar_4 (fun u9 H locs hv => by have hv : (Sum.inl E : String ⊕ Option Value) = Sum.inr u9 := hv; cases hv) (fun E9 q9 ce H locs hE hw hce hcv hcl => ?_)
      have hE : (Sum.inl E : String ⊕ Option Value) = Sum.inl E9 := hE
      cases hE
      by_cases e0 : E = x_IOE
      · subst e0
        have h : some ((1 : Int32), G1) = some (r, G') := h
        cases h
        refine g_catch fx hS hN hxt [] ⟨0, 9, 12, 24⟩ [⟨0, 9, 15, 41⟩] rfl (fun z hz => by cases hz) (by decide) (by decide) lcl_24 lca_24 hce hcv hcl ?_
        refine lv_astore_n (lv' := (3, .ref q9) :: [(0, .ref x0), (1, .int x1), (2, .ref o)]) fx.1 fx.2.1 dL_tar_12 rfl hl (by decide) rfl (fun ls hl => ?_)
        refine lv_iconst (v := 1) fx.1 fx.2.1 dL_tar_13 (by decide) ?_
        exact g_iret fx hw hr dL_tar_14
      have h : (gCode [x_ISE] E 2).map (fun c => (c, G1)) = some (r, G') := by
        have h1 : (gCode (x_IOE :: [x_ISE]) E 1).map (fun c => (c, G1)) = some (r, G') := h
        rw [gCode, if_neg e0] at h1
        exact h1
      by_cases e1 : E = x_ISE
      · subst e1
        have h : some ((2 : Int32), G1) = some (r, G') := h
        cases h
        refine g_catch fx hS hN hxt [⟨0, 9, 12, 24⟩] ⟨0, 9, 15, 41⟩ [] rfl (by simp only [List.forall_mem_cons]; exact ⟨⟨by decide, x_IOE, lcl_24, by decide +kernel⟩, fun z hz => by cases hz⟩) (by decide) (by decide) lcl_41 lca_41 hce hcv hcl ?_
        refine lv_astore_n (lv' := (3, .ref q9) :: [(0, .ref x0), (1, .int x1), (2, .ref o)]) fx.1 fx.2.1 dL_tar_15 rfl hl (by decide) rfl (fun ls hl => ?_)
        refine lv_iconst (v := 2) fx.1 fx.2.1 dL_tar_16 (by decide) ?_
        exact g_iret fx hw hr dL_tar_17
      have h : (gCode [] E 3).map (fun c => (c, G1)) = some (r, G') := by
        have h1 : (gCode (x_ISE :: []) E 2).map (fun c => (c, G1)) = some (r, G') := h
        rw [gCode, if_neg e1] at h1
        exact h1
      cases h
theorem dL_whip_0 : decode cL_whip 0 = .ok (.aload_n 2, 1) := by decide +kernel
theorem dL_whip_1 : decode cL_whip 1 = .ok (.iconst 0, 1) := by decide +kernel
theorem dL_whip_2 : decode cL_whip 2 = .ok (.aload_n 0, 1) := by decide +kernel
theorem dL_whip_3 : decode cL_whip 3 = .ok (.iload_n 1, 1) := by decide +kernel
theorem dL_whip_4 : decode cL_whip 4 = .ok (.invokevirtual 47, 3) := by decide +kernel
theorem dL_whip_7 : decode cL_whip 7 = .ok (.ifCond .eq 7, 3) := by decide +kernel
theorem dL_whip_10 : decode cL_whip 10 = .ok (.lconst 1, 1) := by decide +kernel
theorem dL_whip_11 : decode cL_whip 11 = .ok (.goto 4, 3) := by decide +kernel
theorem dL_whip_14 : decode cL_whip 14 = .ok (.lconst 0, 1) := by decide +kernel
theorem dL_whip_15 : decode cL_whip 15 = .ok (.lastore, 1) := by decide +kernel
theorem dL_whip_16 : decode cL_whip 16 = .ok (.goto 9, 3) := by decide +kernel
theorem dL_whip_19 : decode cL_whip 19 = .ok (.astore_n 3, 1) := by decide +kernel
theorem dL_whip_20 : decode cL_whip 20 = .ok (.iconst 1, 1) := by decide +kernel
theorem dL_whip_21 : decode cL_whip 21 = .ok (.ireturn, 1) := by decide +kernel
theorem dL_whip_22 : decode cL_whip 22 = .ok (.astore_n 3, 1) := by decide +kernel
theorem dL_whip_23 : decode cL_whip 23 = .ok (.iconst 2, 1) := by decide +kernel
theorem dL_whip_24 : decode cL_whip 24 = .ok (.ireturn, 1) := by decide +kernel
theorem dL_whip_25 : decode cL_whip 25 = .ok (.iconst 0, 1) := by decide +kernel
theorem dL_whip_26 : decode cL_whip 26 = .ok (.ireturn, 1) := by decide +kernel
def rm_L_whip : Room := { frames := 9, cells := 2, slots := 12, locals := 186 }
def hh_L_whip : List (Nat × Nat × Nat × Nat) := [(0, 16, 19, 24), (0, 16, 22, 41)]
def f_L_whip (τ : gτ) (n : Nat) (x0 : Nat) (x1 : Int32) (o : Nat) (G : gG) : Option (Int32 × gG) :=
  gTry (f_X10_whip τ n x0 x1 G) [x_IOE, x_ISE] fun v G => gchk (gIn 0 (gn τ o)) <| some (0, gsl G o 0 (if v = 0 then (0 : Int64) else 1))
theorem lv_RL_47 : gLv RL 47 RX10 yX10_whip cX10_whip 4 (some .boolean) 1 := gLv_of (wA_t (wt5 (List.mem_of_getElem? (i := 161) (by decide +kernel))) (by decide +kernel)) (wA_t (wt5 (List.mem_of_getElem? (i := 162) (by decide +kernel))) (by decide +kernel)) (wA_t (wt5 (List.mem_of_getElem? (i := 163) (by decide +kernel))) (by decide +kernel)) (wA_t (wt1 (List.mem_of_getElem? (i := 1) (by decide +kernel))) (by decide +kernel)) (wA_t (wt5 (List.mem_of_getElem? (i := 164) (by decide +kernel))) (by decide +kernel)) ⟨rfl, by decide +kernel, by decide +kernel, by decide +kernel⟩
set_option maxHeartbeats 4000000 in
set_option maxRecDepth 100000 in
theorem c_L_whip (l : Launch) (X : gX) (τ : gτ) (n : Nat) (hS : gS0 l X) (hN : gS1 X) (x0 : Nat) (x1 : Int32) (o : Nat) (G : gG) (h0 : gK τ x0 10) (ho : gK τ o 18) {r : Int32} {G' : gG} (h : f_L_whip τ n x0 x1 o G = some (r, G')) : gMW l X τ yL_whip cL_whip 4 (some .int) hh_L_whip rm_L_whip [.ref x0, .int x1, .ref o] G (some (.int r)) G' := by
  refine g_bodyW (by decide +kernel) (Nat.le_of_ble_eq_true rfl) ?_
  intro p e s m args below meth c ls fx hr hxt hw hl
  have fx : gFx X p s m args meth c cL_whip 4 RL := fx
  have hl : lv_has ls 4 [(0, .ref x0), (1, .int x1), (2, .ref o)] := hl
  show W p l e rm_L_whip s m args below meth c s.heap [] 0 0 (MQ below (gQ X τ (some (.int r)) G') args s rm_L_whip.cells rm_L_whip.slots (gFree X)) _
  unfold f_L_whip gTry at h
  refine lv_aload_n fx.1 fx.2.1 dL_whip_0 rfl (lv_at hl 2 rfl) ?_
  refine lv_iconst (v := 0) fx.1 fx.2.1 dL_whip_1 (by decide) ?_
  refine lv_aload_n fx.1 fx.2.1 dL_whip_2 rfl (lv_at hl 0 rfl) ?_
  refine lv_iload_n fx.1 fx.2.1 dL_whip_3 rfl (lv_at hl 1 rfl) ?_
  cases hf : f_X10_whip τ n x0 x1 G with
  | none => rw [hf] at h; cases h
  | some q =>
    obtain ⟨ov, G1⟩ := q
    rw [hf] at h
    cases ov with
    | inr v =>
      have hok : gOk (ρ := Int32 × gG) (gchk (gIn 0 (gn τ o)) (some (0, gsl G1 o 0 (if v = 0 then (0 : Int64) else 1)))) (fun q => q = (r, G')) := ⟨_, h, rfl⟩
      obtain ⟨hin, hok⟩ := gOk_chk hok
      refine g_callVC (κ := 10) (As := [.int x1]) (rest := [.int 0, .ref o]) fx hw (c_X10_whip l X τ n hS x0 x1 G h0 hf) lv_RL_47 rfl rfl h0 rfl hl.1 rfl ⟨Nat.le_of_ble_eq_true rfl, Nat.le_of_ble_eq_true rfl⟩ (Nat.le_of_ble_eq_true rfl) ⟨Nat.le_of_ble_eq_true rfl, Nat.le_of_ble_eq_true rfl⟩ dL_whip_4 (fun u9 H locs hv hw => ?_) (fun E9 q9 ce H locs hE => by have hE : (Sum.inr (some (.int v)) : String ⊕ Option Value) = Sum.inl E9 := hE; cases hE)
      have hv : (Sum.inr (some (.int v)) : String ⊕ Option Value) = Sum.inr u9 := hv
      cases hv
      cases gOk_some hok
      refine lv_if_eq (tgt := 14) fx.1 fx.2.1 dL_whip_7 (by decide) (fun hb => ?_) (fun hb => ?_)
      · rw [if_pos hb]
        refine lv_lconst (v := 0) fx.1 fx.2.1 dL_whip_14 (by decide) ?_
        refine g_last fx hw ho hin dL_whip_15 (fun H locs hw => ?_)
        refine lv_goto (tgt := 25) fx.1 fx.2.1 dL_whip_16 (by decide) ?_
        refine lv_iconst (v := 0) fx.1 fx.2.1 dL_whip_25 (by decide) ?_
        exact g_iret fx hw hr dL_whip_26
      · rw [if_neg hb]
        refine lv_lconst (v := 1) fx.1 fx.2.1 dL_whip_10 (by decide) ?_
        refine lv_goto (tgt := 15) fx.1 fx.2.1 dL_whip_11 (by decide) ?_
        refine g_last fx hw ho hin dL_whip_15 (fun H locs hw => ?_)
        refine lv_goto (tgt := 25) fx.1 fx.2.1 dL_whip_16 (by decide) ?_
        refine lv_iconst (v := 0) fx.1 fx.2.1 dL_whip_25 (by decide) ?_
        exact g_iret fx hw hr dL_whip_26
    | inl E =>
      refine g_callVC (κ := 10) (As := [.int x1]) (rest := [.int 0, .ref o]) fx hw (c_X10_whip l X τ n hS x0 x1 G h0 hf) lv_RL_47 rfl rfl h0 rfl hl.1 rfl ⟨Nat.le_of_ble_eq_true rfl, Nat.le_of_ble_eq_true rfl⟩ (Nat.le_of_ble_eq_true rfl) ⟨Nat.le_of_ble_eq_true rfl, Nat.le_of_ble_eq_true rfl⟩ dL_whip_4 (fun u9 H locs hv => by have hv : (Sum.inl E : String ⊕ Option Value) = Sum.inr u9 := hv; cases hv) (fun E9 q9 ce H locs hE hw hce hcv hcl => ?_)
      have hE : (Sum.inl E : String ⊕ Option Value) = Sum.inl E9 := hE
      cases hE
      by_cases e0 : E = x_IOE
      · subst e0
        have h : some ((1 : Int32), G1) = some (r, G') := h
        cases h
        refine g_catch fx hS hN hxt [] ⟨0, 16, 19, 24⟩ [⟨0, 16, 22, 41⟩] rfl (fun z hz => by cases hz) (by decide) (by decide) lcl_24 lca_24 hce hcv hcl ?_
        refine lv_astore_n (lv' := (3, .ref q9) :: [(0, .ref x0), (1, .int x1), (2, .ref o)]) fx.1 fx.2.1 dL_whip_19 rfl hl (by decide) rfl (fun ls hl => ?_)
        refine lv_iconst (v := 1) fx.1 fx.2.1 dL_whip_20 (by decide) ?_
        exact g_iret fx hw hr dL_whip_21
      have h : (gCode [x_ISE] E 2).map (fun c => (c, G1)) = some (r, G') := by
        have h1 : (gCode (x_IOE :: [x_ISE]) E 1).map (fun c => (c, G1)) = some (r, G') := h
        rw [gCode, if_neg e0] at h1
        exact h1
      by_cases e1 : E = x_ISE
      · subst e1
        have h : some ((2 : Int32), G1) = some (r, G') := h
        cases h
        refine g_catch fx hS hN hxt [⟨0, 16, 19, 24⟩] ⟨0, 16, 22, 41⟩ [] rfl (by simp only [List.forall_mem_cons]; exact ⟨⟨by decide, x_IOE, lcl_24, by decide +kernel⟩, fun z hz => by cases hz⟩) (by decide) (by decide) lcl_41 lca_41 hce hcv hcl ?_
        refine lv_astore_n (lv' := (3, .ref q9) :: [(0, .ref x0), (1, .int x1), (2, .ref o)]) fx.1 fx.2.1 dL_whip_22 rfl hl (by decide) rfl (fun ls hl => ?_)
        refine lv_iconst (v := 2) fx.1 fx.2.1 dL_whip_23 (by decide) ?_
        exact g_iret fx hw hr dL_whip_24
      have h : (gCode [] E 3).map (fun c => (c, G1)) = some (r, G') := by
        have h1 : (gCode (x_ISE :: []) E 2).map (fun c => (c, G1)) = some (r, G') := h
        rw [gCode, if_neg e1] at h1
        exact h1
      cases h
theorem dL_twice_0 : decode cL_twice 0 = .ok (.aload_n 2, 1) := by decide +kernel
theorem dL_twice_1 : decode cL_twice 1 = .ok (.iconst 0, 1) := by decide +kernel
theorem dL_twice_2 : decode cL_twice 2 = .ok (.aload_n 0, 1) := by decide +kernel
theorem dL_twice_3 : decode cL_twice 3 = .ok (.iload_n 1, 1) := by decide +kernel
theorem dL_twice_4 : decode cL_twice 4 = .ok (.invokevirtual 51, 3) := by decide +kernel
theorem dL_twice_7 : decode cL_twice 7 = .ok (.i2l, 1) := by decide +kernel
theorem dL_twice_8 : decode cL_twice 8 = .ok (.lastore, 1) := by decide +kernel
theorem dL_twice_9 : decode cL_twice 9 = .ok (.goto 9, 3) := by decide +kernel
theorem dL_twice_12 : decode cL_twice 12 = .ok (.astore_n 3, 1) := by decide +kernel
theorem dL_twice_13 : decode cL_twice 13 = .ok (.iconst 1, 1) := by decide +kernel
theorem dL_twice_14 : decode cL_twice 14 = .ok (.ireturn, 1) := by decide +kernel
theorem dL_twice_15 : decode cL_twice 15 = .ok (.astore_n 3, 1) := by decide +kernel
theorem dL_twice_16 : decode cL_twice 16 = .ok (.iconst 2, 1) := by decide +kernel
theorem dL_twice_17 : decode cL_twice 17 = .ok (.ireturn, 1) := by decide +kernel
theorem dL_twice_18 : decode cL_twice 18 = .ok (.iconst 0, 1) := by decide +kernel
theorem dL_twice_19 : decode cL_twice 19 = .ok (.ireturn, 1) := by decide +kernel
def rm_L_twice : Room := { frames := 8, cells := 2, slots := 12, locals := 163 }
def hh_L_twice : List (Nat × Nat × Nat × Nat) := [(0, 9, 12, 24), (0, 9, 15, 41)]
def f_L_twice (τ : gτ) (n : Nat) (x0 : Nat) (x1 : Int32) (o : Nat) (G : gG) : Option (Int32 × gG) :=
  gTry (f_X10_twice τ n x0 x1 G) [x_IOE, x_ISE] fun v G => gchk (gIn 0 (gn τ o)) <| some (0, gsl G o 0 v.toInt64)
theorem lv_RL_51 : gLv RL 51 RX10 yX10_twice cX10_twice 3 (some .int) 1 := gLv_of (wA_t (wt5 (List.mem_of_getElem? (i := 168) (by decide +kernel))) (by decide +kernel)) (wA_t (wt5 (List.mem_of_getElem? (i := 169) (by decide +kernel))) (by decide +kernel)) (wA_t (wt5 (List.mem_of_getElem? (i := 170) (by decide +kernel))) (by decide +kernel)) (wA_t (wt1 (List.mem_of_getElem? (i := 1) (by decide +kernel))) (by decide +kernel)) (wA_t (wt5 (List.mem_of_getElem? (i := 171) (by decide +kernel))) (by decide +kernel)) ⟨rfl, by decide +kernel, by decide +kernel, by decide +kernel⟩
set_option maxHeartbeats 4000000 in
set_option maxRecDepth 100000 in
theorem c_L_twice (l : Launch) (X : gX) (τ : gτ) (n : Nat) (hS : gS0 l X) (hN : gS1 X) (x0 : Nat) (x1 : Int32) (o : Nat) (G : gG) (h0 : gK τ x0 10) (ho : gK τ o 18) {r : Int32} {G' : gG} (h : f_L_twice τ n x0 x1 o G = some (r, G')) : gMW l X τ yL_twice cL_twice 4 (some .int) hh_L_twice rm_L_twice [.ref x0, .int x1, .ref o] G (some (.int r)) G' := by
  refine g_bodyW (by decide +kernel) (Nat.le_of_ble_eq_true rfl) ?_
  intro p e s m args below meth c ls fx hr hxt hw hl
  have fx : gFx X p s m args meth c cL_twice 4 RL := fx
  have hl : lv_has ls 4 [(0, .ref x0), (1, .int x1), (2, .ref o)] := hl
  show W p l e rm_L_twice s m args below meth c s.heap [] 0 0 (MQ below (gQ X τ (some (.int r)) G') args s rm_L_twice.cells rm_L_twice.slots (gFree X)) _
  unfold f_L_twice gTry at h
  refine lv_aload_n fx.1 fx.2.1 dL_twice_0 rfl (lv_at hl 2 rfl) ?_
  refine lv_iconst (v := 0) fx.1 fx.2.1 dL_twice_1 (by decide) ?_
  refine lv_aload_n fx.1 fx.2.1 dL_twice_2 rfl (lv_at hl 0 rfl) ?_
  refine lv_iload_n fx.1 fx.2.1 dL_twice_3 rfl (lv_at hl 1 rfl) ?_
  cases hf : f_X10_twice τ n x0 x1 G with
  | none => rw [hf] at h; cases h
  | some q =>
    obtain ⟨ov, G1⟩ := q
    rw [hf] at h
    cases ov with
    | inr v =>
      have hok : gOk (ρ := Int32 × gG) (gchk (gIn 0 (gn τ o)) (some (0, gsl G1 o 0 v.toInt64))) (fun q => q = (r, G')) := ⟨_, h, rfl⟩
      obtain ⟨hin, hok⟩ := gOk_chk hok
      refine g_callVC (κ := 10) (As := [.int x1]) (rest := [.int 0, .ref o]) fx hw (c_X10_twice l X τ n hS x0 x1 G h0 hf) lv_RL_51 rfl rfl h0 rfl hl.1 rfl ⟨Nat.le_of_ble_eq_true rfl, Nat.le_of_ble_eq_true rfl⟩ (Nat.le_of_ble_eq_true rfl) ⟨Nat.le_of_ble_eq_true rfl, Nat.le_of_ble_eq_true rfl⟩ dL_twice_4 (fun u9 H locs hv hw => ?_) (fun E9 q9 ce H locs hE => by have hE : (Sum.inr (some (.int v)) : String ⊕ Option Value) = Sum.inl E9 := hE; cases hE)
      have hv : (Sum.inr (some (.int v)) : String ⊕ Option Value) = Sum.inr u9 := hv
      cases hv
      cases gOk_some hok
      refine lv_i2l (v := v.toInt64) fx.1 fx.2.1 dL_twice_7 rfl ?_
      refine g_last fx hw ho hin dL_twice_8 (fun H locs hw => ?_)
      refine lv_goto (tgt := 18) fx.1 fx.2.1 dL_twice_9 (by decide) ?_
      refine lv_iconst (v := 0) fx.1 fx.2.1 dL_twice_18 (by decide) ?_
      exact g_iret fx hw hr dL_twice_19
    | inl E =>
      refine g_callVC (κ := 10) (As := [.int x1]) (rest := [.int 0, .ref o]) fx hw (c_X10_twice l X τ n hS x0 x1 G h0 hf) lv_RL_51 rfl rfl h0 rfl hl.1 rfl ⟨Nat.le_of_ble_eq_true rfl, Nat.le_of_ble_eq_true rfl⟩ (Nat.le_of_ble_eq_true rfl) ⟨Nat.le_of_ble_eq_true rfl, Nat.le_of_ble_eq_true rfl⟩ dL_twice_4 (fun u9 H locs hv => by have hv : (Sum.inl E : String ⊕ Option Value) = Sum.inr u9 := hv; cases hv) (fun E9 q9 ce H locs hE hw hce hcv hcl => ?_)
      have hE : (Sum.inl E : String ⊕ Option Value) = Sum.inl E9 := hE
      cases hE
      by_cases e0 : E = x_IOE
      · subst e0
        have h : some ((1 : Int32), G1) = some (r, G') := h
        cases h
        refine g_catch fx hS hN hxt [] ⟨0, 9, 12, 24⟩ [⟨0, 9, 15, 41⟩] rfl (fun z hz => by cases hz) (by decide) (by decide) lcl_24 lca_24 hce hcv hcl ?_
        refine lv_astore_n (lv' := (3, .ref q9) :: [(0, .ref x0), (1, .int x1), (2, .ref o)]) fx.1 fx.2.1 dL_twice_12 rfl hl (by decide) rfl (fun ls hl => ?_)
        refine lv_iconst (v := 1) fx.1 fx.2.1 dL_twice_13 (by decide) ?_
        exact g_iret fx hw hr dL_twice_14
      have h : (gCode [x_ISE] E 2).map (fun c => (c, G1)) = some (r, G') := by
        have h1 : (gCode (x_IOE :: [x_ISE]) E 1).map (fun c => (c, G1)) = some (r, G') := h
        rw [gCode, if_neg e0] at h1
        exact h1
      by_cases e1 : E = x_ISE
      · subst e1
        have h : some ((2 : Int32), G1) = some (r, G') := h
        cases h
        refine g_catch fx hS hN hxt [⟨0, 9, 12, 24⟩] ⟨0, 9, 15, 41⟩ [] rfl (by simp only [List.forall_mem_cons]; exact ⟨⟨by decide, x_IOE, lcl_24, by decide +kernel⟩, fun z hz => by cases hz⟩) (by decide) (by decide) lcl_41 lca_41 hce hcv hcl ?_
        refine lv_astore_n (lv' := (3, .ref q9) :: [(0, .ref x0), (1, .int x1), (2, .ref o)]) fx.1 fx.2.1 dL_twice_15 rfl hl (by decide) rfl (fun ls hl => ?_)
        refine lv_iconst (v := 2) fx.1 fx.2.1 dL_twice_16 (by decide) ?_
        exact g_iret fx hw hr dL_twice_17
      have h : (gCode [] E 3).map (fun c => (c, G1)) = some (r, G') := by
        have h1 : (gCode (x_ISE :: []) E 2).map (fun c => (c, G1)) = some (r, G') := h
        rw [gCode, if_neg e1] at h1
        exact h1
      cases h
theorem dL_cut_0 : decode cL_cut 0 = .ok (.aload_n 3, 1) := by decide +kernel
theorem dL_cut_1 : decode cL_cut 1 = .ok (.iconst 0, 1) := by decide +kernel
theorem dL_cut_2 : decode cL_cut 2 = .ok (.aload_n 0, 1) := by decide +kernel
theorem dL_cut_3 : decode cL_cut 3 = .ok (.iload_n 1, 1) := by decide +kernel
theorem dL_cut_4 : decode cL_cut 4 = .ok (.iload_n 2, 1) := by decide +kernel
theorem dL_cut_5 : decode cL_cut 5 = .ok (.invokevirtual 54, 3) := by decide +kernel
theorem dL_cut_8 : decode cL_cut 8 = .ok (.i2l, 1) := by decide +kernel
theorem dL_cut_9 : decode cL_cut 9 = .ok (.lastore, 1) := by decide +kernel
theorem dL_cut_10 : decode cL_cut 10 = .ok (.goto 19, 3) := by decide +kernel
theorem dL_cut_13 : decode cL_cut 13 = .ok (.astore 4, 2) := by decide +kernel
theorem dL_cut_15 : decode cL_cut 15 = .ok (.iconst 1, 1) := by decide +kernel
theorem dL_cut_16 : decode cL_cut 16 = .ok (.ireturn, 1) := by decide +kernel
theorem dL_cut_17 : decode cL_cut 17 = .ok (.astore 4, 2) := by decide +kernel
theorem dL_cut_19 : decode cL_cut 19 = .ok (.iconst 2, 1) := by decide +kernel
theorem dL_cut_20 : decode cL_cut 20 = .ok (.ireturn, 1) := by decide +kernel
theorem dL_cut_21 : decode cL_cut 21 = .ok (.astore 4, 2) := by decide +kernel
theorem dL_cut_23 : decode cL_cut 23 = .ok (.iconst 3, 1) := by decide +kernel
theorem dL_cut_24 : decode cL_cut 24 = .ok (.ireturn, 1) := by decide +kernel
theorem dL_cut_25 : decode cL_cut 25 = .ok (.astore 4, 2) := by decide +kernel
theorem dL_cut_27 : decode cL_cut 27 = .ok (.iconst 4, 1) := by decide +kernel
theorem dL_cut_28 : decode cL_cut 28 = .ok (.ireturn, 1) := by decide +kernel
theorem dL_cut_29 : decode cL_cut 29 = .ok (.iconst 0, 1) := by decide +kernel
theorem dL_cut_30 : decode cL_cut 30 = .ok (.ireturn, 1) := by decide +kernel
def rm_L_cut : Room := { frames := 9, cells := 5, slots := 30, locals := 186 }
def hh_L_cut : List (Nat × Nat × Nat × Nat) := [(0, 10, 13, 24), (0, 10, 17, 13), (0, 10, 21, 41), (0, 10, 25, 15)]
def f_L_cut (τ : gτ) (n : Nat) (x0 : Nat) (x1 : Int32) (x2 : Int32) (o : Nat) (G : gG) : Option (Int32 × gG) :=
  gTry (f_X10_cut τ n x0 x1 x2 G) [x_IOE, x_IAE, x_ISE, x_UOE] fun v G => gchk (gIn 0 (gn τ o)) <| some (0, gsl G o 0 v.toInt64)
theorem lv_RL_54 : gLv RL 54 RX10 yX10_cut cX10_cut 4 (some .int) 2 := gLv_of (wA_t (wt5 (List.mem_of_getElem? (i := 184) (by decide +kernel))) (by decide +kernel)) (wA_t (wt5 (List.mem_of_getElem? (i := 185) (by decide +kernel))) (by decide +kernel)) (wA_t (wt5 (List.mem_of_getElem? (i := 186) (by decide +kernel))) (by decide +kernel)) (wA_t (wt1 (List.mem_of_getElem? (i := 1) (by decide +kernel))) (by decide +kernel)) (wA_t (wt5 (List.mem_of_getElem? (i := 187) (by decide +kernel))) (by decide +kernel)) ⟨rfl, by decide +kernel, by decide +kernel, by decide +kernel⟩
set_option maxHeartbeats 4000000 in
set_option maxRecDepth 100000 in
theorem c_L_cut (l : Launch) (X : gX) (τ : gτ) (n : Nat) (hS : gS0 l X) (hN : gS1 X) (x0 : Nat) (x1 : Int32) (x2 : Int32) (o : Nat) (G : gG) (h0 : gK τ x0 10) (ho : gK τ o 18) {r : Int32} {G' : gG} (h : f_L_cut τ n x0 x1 x2 o G = some (r, G')) : gMW l X τ yL_cut cL_cut 5 (some .int) hh_L_cut rm_L_cut [.ref x0, .int x1, .int x2, .ref o] G (some (.int r)) G' := by
  refine g_bodyW (by decide +kernel) (Nat.le_of_ble_eq_true rfl) ?_
  intro p e s m args below meth c ls fx hr hxt hw hl
  have fx : gFx X p s m args meth c cL_cut 5 RL := fx
  have hl : lv_has ls 5 [(0, .ref x0), (1, .int x1), (2, .int x2), (3, .ref o)] := hl
  show W p l e rm_L_cut s m args below meth c s.heap [] 0 0 (MQ below (gQ X τ (some (.int r)) G') args s rm_L_cut.cells rm_L_cut.slots (gFree X)) _
  unfold f_L_cut gTry at h
  refine lv_aload_n fx.1 fx.2.1 dL_cut_0 rfl (lv_at hl 3 rfl) ?_
  refine lv_iconst (v := 0) fx.1 fx.2.1 dL_cut_1 (by decide) ?_
  refine lv_aload_n fx.1 fx.2.1 dL_cut_2 rfl (lv_at hl 0 rfl) ?_
  refine lv_iload_n fx.1 fx.2.1 dL_cut_3 rfl (lv_at hl 1 rfl) ?_
  refine lv_iload_n fx.1 fx.2.1 dL_cut_4 rfl (lv_at hl 2 rfl) ?_
  cases hf : f_X10_cut τ n x0 x1 x2 G with
  | none => rw [hf] at h; cases h
  | some q =>
    obtain ⟨ov, G1⟩ := q
    rw [hf] at h
    cases ov with
    | inr v =>
      have hok : gOk (ρ := Int32 × gG) (gchk (gIn 0 (gn τ o)) (some (0, gsl G1 o 0 v.toInt64))) (fun q => q = (r, G')) := ⟨_, h, rfl⟩
      obtain ⟨hin, hok⟩ := gOk_chk hok
      refine g_callVC (κ := 10) (As := [.int x1, .int x2]) (rest := [.int 0, .ref o]) fx hw (c_X10_cut l X τ n hS x0 x1 x2 G h0 hf) lv_RL_54 rfl rfl h0 rfl hl.1 rfl ⟨Nat.le_of_ble_eq_true rfl, Nat.le_of_ble_eq_true rfl⟩ (Nat.le_of_ble_eq_true rfl) ⟨Nat.le_of_ble_eq_true rfl, Nat.le_of_ble_eq_true rfl⟩ dL_cut_5 (fun u9 H locs hv hw => ?_) (fun E9 q9 ce H locs hE => by have hE : (Sum.inr (some (.int v)) : String ⊕ Option Value) = Sum.inl E9 := hE; cases hE)
      have hv : (Sum.inr (some (.int v)) : String ⊕ Option Value) = Sum.inr u9 := hv
      cases hv
      cases gOk_some hok
      refine lv_i2l (v := v.toInt64) fx.1 fx.2.1 dL_cut_8 rfl ?_
      refine g_last fx hw ho hin dL_cut_9 (fun H locs hw => ?_)
      refine lv_goto (tgt := 29) fx.1 fx.2.1 dL_cut_10 (by decide) ?_
      refine lv_iconst (v := 0) fx.1 fx.2.1 dL_cut_29 (by decide) ?_
      exact g_iret fx hw hr dL_cut_30
    | inl E =>
      refine g_callVC (κ := 10) (As := [.int x1, .int x2]) (rest := [.int 0, .ref o]) fx hw (c_X10_cut l X τ n hS x0 x1 x2 G h0 hf) lv_RL_54 rfl rfl h0 rfl hl.1 rfl ⟨Nat.le_of_ble_eq_true rfl, Nat.le_of_ble_eq_true rfl⟩ (Nat.le_of_ble_eq_true rfl) ⟨Nat.le_of_ble_eq_true rfl, Nat.le_of_ble_eq_true rfl⟩ dL_cut_5 (fun u9 H locs hv => by have hv : (Sum.inl E : String ⊕ Option Value) = Sum.inr u9 := hv; cases hv) (fun E9 q9 ce H locs hE hw hce hcv hcl => ?_)
      have hE : (Sum.inl E : String ⊕ Option Value) = Sum.inl E9 := hE
      cases hE
      by_cases e0 : E = x_IOE
      · subst e0
        have h : some ((1 : Int32), G1) = some (r, G') := h
        cases h
        refine g_catch fx hS hN hxt [] ⟨0, 10, 13, 24⟩ [⟨0, 10, 17, 13⟩, ⟨0, 10, 21, 41⟩, ⟨0, 10, 25, 15⟩] rfl (fun z hz => by cases hz) (by decide) (by decide) lcl_24 lca_24 hce hcv hcl ?_
        refine lv_astore (lv' := (4, .ref q9) :: [(0, .ref x0), (1, .int x1), (2, .int x2), (3, .ref o)]) fx.1 fx.2.1 dL_cut_13 hl (by decide) rfl (fun ls hl => ?_)
        refine lv_iconst (v := 1) fx.1 fx.2.1 dL_cut_15 (by decide) ?_
        exact g_iret fx hw hr dL_cut_16
      have h : (gCode [x_IAE, x_ISE, x_UOE] E 2).map (fun c => (c, G1)) = some (r, G') := by
        have h1 : (gCode (x_IOE :: [x_IAE, x_ISE, x_UOE]) E 1).map (fun c => (c, G1)) = some (r, G') := h
        rw [gCode, if_neg e0] at h1
        exact h1
      by_cases e1 : E = x_IAE
      · subst e1
        have h : some ((2 : Int32), G1) = some (r, G') := h
        cases h
        refine g_catch fx hS hN hxt [⟨0, 10, 13, 24⟩] ⟨0, 10, 17, 13⟩ [⟨0, 10, 21, 41⟩, ⟨0, 10, 25, 15⟩] rfl (by simp only [List.forall_mem_cons]; exact ⟨⟨by decide, x_IOE, lcl_24, by decide +kernel⟩, fun z hz => by cases hz⟩) (by decide) (by decide) lcl_13 lca_13 hce hcv hcl ?_
        refine lv_astore (lv' := (4, .ref q9) :: [(0, .ref x0), (1, .int x1), (2, .int x2), (3, .ref o)]) fx.1 fx.2.1 dL_cut_17 hl (by decide) rfl (fun ls hl => ?_)
        refine lv_iconst (v := 2) fx.1 fx.2.1 dL_cut_19 (by decide) ?_
        exact g_iret fx hw hr dL_cut_20
      have h : (gCode [x_ISE, x_UOE] E 3).map (fun c => (c, G1)) = some (r, G') := by
        have h1 : (gCode (x_IAE :: [x_ISE, x_UOE]) E 2).map (fun c => (c, G1)) = some (r, G') := h
        rw [gCode, if_neg e1] at h1
        exact h1
      by_cases e2 : E = x_ISE
      · subst e2
        have h : some ((3 : Int32), G1) = some (r, G') := h
        cases h
        refine g_catch fx hS hN hxt [⟨0, 10, 13, 24⟩, ⟨0, 10, 17, 13⟩] ⟨0, 10, 21, 41⟩ [⟨0, 10, 25, 15⟩] rfl (by simp only [List.forall_mem_cons]; exact ⟨⟨by decide, x_IOE, lcl_24, by decide +kernel⟩, ⟨by decide, x_IAE, lcl_13, by decide +kernel⟩, fun z hz => by cases hz⟩) (by decide) (by decide) lcl_41 lca_41 hce hcv hcl ?_
        refine lv_astore (lv' := (4, .ref q9) :: [(0, .ref x0), (1, .int x1), (2, .int x2), (3, .ref o)]) fx.1 fx.2.1 dL_cut_21 hl (by decide) rfl (fun ls hl => ?_)
        refine lv_iconst (v := 3) fx.1 fx.2.1 dL_cut_23 (by decide) ?_
        exact g_iret fx hw hr dL_cut_24
      have h : (gCode [x_UOE] E 4).map (fun c => (c, G1)) = some (r, G') := by
        have h1 : (gCode (x_ISE :: [x_UOE]) E 3).map (fun c => (c, G1)) = some (r, G') := h
        rw [gCode, if_neg e2] at h1
        exact h1
      by_cases e3 : E = x_UOE
      · subst e3
        have h : some ((4 : Int32), G1) = some (r, G') := h
        cases h
        refine g_catch fx hS hN hxt [⟨0, 10, 13, 24⟩, ⟨0, 10, 17, 13⟩, ⟨0, 10, 21, 41⟩] ⟨0, 10, 25, 15⟩ [] rfl (by simp only [List.forall_mem_cons]; exact ⟨⟨by decide, x_IOE, lcl_24, by decide +kernel⟩, ⟨by decide, x_IAE, lcl_13, by decide +kernel⟩, ⟨by decide, x_ISE, lcl_41, by decide +kernel⟩, fun z hz => by cases hz⟩) (by decide) (by decide) lcl_15 lca_15 hce hcv hcl ?_
        refine lv_astore (lv' := (4, .ref q9) :: [(0, .ref x0), (1, .int x1), (2, .int x2), (3, .ref o)]) fx.1 fx.2.1 dL_cut_25 hl (by decide) rfl (fun ls hl => ?_)
        refine lv_iconst (v := 4) fx.1 fx.2.1 dL_cut_27 (by decide) ?_
        exact g_iret fx hw hr dL_cut_28
      have h : (gCode [] E 5).map (fun c => (c, G1)) = some (r, G') := by
        have h1 : (gCode (x_UOE :: []) E 4).map (fun c => (c, G1)) = some (r, G') := h
        rw [gCode, if_neg e3] at h1
        exact h1
      cases h
theorem dL_hang_0 : decode cL_hang 0 = .ok (.aload_n 3, 1) := by decide +kernel
theorem dL_hang_1 : decode cL_hang 1 = .ok (.iconst 0, 1) := by decide +kernel
theorem dL_hang_2 : decode cL_hang 2 = .ok (.aload_n 0, 1) := by decide +kernel
theorem dL_hang_3 : decode cL_hang 3 = .ok (.iload_n 1, 1) := by decide +kernel
theorem dL_hang_4 : decode cL_hang 4 = .ok (.iload_n 2, 1) := by decide +kernel
theorem dL_hang_5 : decode cL_hang 5 = .ok (.invokevirtual 57, 3) := by decide +kernel
theorem dL_hang_8 : decode cL_hang 8 = .ok (.i2l, 1) := by decide +kernel
theorem dL_hang_9 : decode cL_hang 9 = .ok (.lastore, 1) := by decide +kernel
theorem dL_hang_10 : decode cL_hang 10 = .ok (.goto 15, 3) := by decide +kernel
theorem dL_hang_13 : decode cL_hang 13 = .ok (.astore 4, 2) := by decide +kernel
theorem dL_hang_15 : decode cL_hang 15 = .ok (.iconst 1, 1) := by decide +kernel
theorem dL_hang_16 : decode cL_hang 16 = .ok (.ireturn, 1) := by decide +kernel
theorem dL_hang_17 : decode cL_hang 17 = .ok (.astore 4, 2) := by decide +kernel
theorem dL_hang_19 : decode cL_hang 19 = .ok (.iconst 2, 1) := by decide +kernel
theorem dL_hang_20 : decode cL_hang 20 = .ok (.ireturn, 1) := by decide +kernel
theorem dL_hang_21 : decode cL_hang 21 = .ok (.astore 4, 2) := by decide +kernel
theorem dL_hang_23 : decode cL_hang 23 = .ok (.iconst 3, 1) := by decide +kernel
theorem dL_hang_24 : decode cL_hang 24 = .ok (.ireturn, 1) := by decide +kernel
theorem dL_hang_25 : decode cL_hang 25 = .ok (.iconst 0, 1) := by decide +kernel
theorem dL_hang_26 : decode cL_hang 26 = .ok (.ireturn, 1) := by decide +kernel
def rm_L_hang : Room := { frames := 9, cells := 4, slots := 24, locals := 187 }
def hh_L_hang : List (Nat × Nat × Nat × Nat) := [(0, 10, 13, 24), (0, 10, 17, 13), (0, 10, 21, 41)]
def f_L_hang (τ : gτ) (n : Nat) (x0 : Nat) (x1 : Int32) (x2 : Int32) (o : Nat) (G : gG) : Option (Int32 × gG) :=
  gTry (f_X10_hang τ n x0 x1 x2 G) [x_IOE, x_IAE, x_ISE] fun v G => gchk (gIn 0 (gn τ o)) <| some (0, gsl G o 0 v.toInt64)
theorem lv_RL_57 : gLv RL 57 RX10 yX10_hang cX10_hang 5 (some .int) 2 := gLv_of (wA_t (wt5 (List.mem_of_getElem? (i := 195) (by decide +kernel))) (by decide +kernel)) (wA_t (wt5 (List.mem_of_getElem? (i := 196) (by decide +kernel))) (by decide +kernel)) (wA_t (wt5 (List.mem_of_getElem? (i := 197) (by decide +kernel))) (by decide +kernel)) (wA_t (wt1 (List.mem_of_getElem? (i := 1) (by decide +kernel))) (by decide +kernel)) (wA_t (wt5 (List.mem_of_getElem? (i := 198) (by decide +kernel))) (by decide +kernel)) ⟨rfl, by decide +kernel, by decide +kernel, by decide +kernel⟩
set_option maxHeartbeats 4000000 in
set_option maxRecDepth 100000 in
theorem c_L_hang (l : Launch) (X : gX) (τ : gτ) (n : Nat) (hS : gS0 l X) (hN : gS1 X) (x0 : Nat) (x1 : Int32) (x2 : Int32) (o : Nat) (G : gG) (h0 : gK τ x0 10) (ho : gK τ o 18) {r : Int32} {G' : gG} (h : f_L_hang τ n x0 x1 x2 o G = some (r, G')) : gMW l X τ yL_hang cL_hang 5 (some .int) hh_L_hang rm_L_hang [.ref x0, .int x1, .int x2, .ref o] G (some (.int r)) G' := by
  refine g_bodyW (by decide +kernel) (Nat.le_of_ble_eq_true rfl) ?_
  intro p e s m args below meth c ls fx hr hxt hw hl
  have fx : gFx X p s m args meth c cL_hang 5 RL := fx
  have hl : lv_has ls 5 [(0, .ref x0), (1, .int x1), (2, .int x2), (3, .ref o)] := hl
  show W p l e rm_L_hang s m args below meth c s.heap [] 0 0 (MQ below (gQ X τ (some (.int r)) G') args s rm_L_hang.cells rm_L_hang.slots (gFree X)) _
  unfold f_L_hang gTry at h
  refine lv_aload_n fx.1 fx.2.1 dL_hang_0 rfl (lv_at hl 3 rfl) ?_
  refine lv_iconst (v := 0) fx.1 fx.2.1 dL_hang_1 (by decide) ?_
  refine lv_aload_n fx.1 fx.2.1 dL_hang_2 rfl (lv_at hl 0 rfl) ?_
  refine lv_iload_n fx.1 fx.2.1 dL_hang_3 rfl (lv_at hl 1 rfl) ?_
  refine lv_iload_n fx.1 fx.2.1 dL_hang_4 rfl (lv_at hl 2 rfl) ?_
  cases hf : f_X10_hang τ n x0 x1 x2 G with
  | none => rw [hf] at h; cases h
  | some q =>
    obtain ⟨ov, G1⟩ := q
    rw [hf] at h
    cases ov with
    | inr v =>
      have hok : gOk (ρ := Int32 × gG) (gchk (gIn 0 (gn τ o)) (some (0, gsl G1 o 0 v.toInt64))) (fun q => q = (r, G')) := ⟨_, h, rfl⟩
      obtain ⟨hin, hok⟩ := gOk_chk hok
      refine g_callVC (κ := 10) (As := [.int x1, .int x2]) (rest := [.int 0, .ref o]) fx hw (c_X10_hang l X τ n hS x0 x1 x2 G h0 hf) lv_RL_57 rfl rfl h0 rfl hl.1 rfl ⟨Nat.le_of_ble_eq_true rfl, Nat.le_of_ble_eq_true rfl⟩ (Nat.le_of_ble_eq_true rfl) ⟨Nat.le_of_ble_eq_true rfl, Nat.le_of_ble_eq_true rfl⟩ dL_hang_5 (fun u9 H locs hv hw => ?_) (fun E9 q9 ce H locs hE => by have hE : (Sum.inr (some (.int v)) : String ⊕ Option Value) = Sum.inl E9 := hE; cases hE)
      have hv : (Sum.inr (some (.int v)) : String ⊕ Option Value) = Sum.inr u9 := hv
      cases hv
      cases gOk_some hok
      refine lv_i2l (v := v.toInt64) fx.1 fx.2.1 dL_hang_8 rfl ?_
      refine g_last fx hw ho hin dL_hang_9 (fun H locs hw => ?_)
      refine lv_goto (tgt := 25) fx.1 fx.2.1 dL_hang_10 (by decide) ?_
      refine lv_iconst (v := 0) fx.1 fx.2.1 dL_hang_25 (by decide) ?_
      exact g_iret fx hw hr dL_hang_26
    | inl E =>
      refine g_callVC (κ := 10) (As := [.int x1, .int x2]) (rest := [.int 0, .ref o]) fx hw (c_X10_hang l X τ n hS x0 x1 x2 G h0 hf) lv_RL_57 rfl rfl h0 rfl hl.1 rfl ⟨Nat.le_of_ble_eq_true rfl, Nat.le_of_ble_eq_true rfl⟩ (Nat.le_of_ble_eq_true rfl) ⟨Nat.le_of_ble_eq_true rfl, Nat.le_of_ble_eq_true rfl⟩ dL_hang_5 (fun u9 H locs hv => by have hv : (Sum.inl E : String ⊕ Option Value) = Sum.inr u9 := hv; cases hv) (fun E9 q9 ce H locs hE hw hce hcv hcl => ?_)
      have hE : (Sum.inl E : String ⊕ Option Value) = Sum.inl E9 := hE
      cases hE
      by_cases e0 : E = x_IOE
      · subst e0
        have h : some ((1 : Int32), G1) = some (r, G') := h
        cases h
        refine g_catch fx hS hN hxt [] ⟨0, 10, 13, 24⟩ [⟨0, 10, 17, 13⟩, ⟨0, 10, 21, 41⟩] rfl (fun z hz => by cases hz) (by decide) (by decide) lcl_24 lca_24 hce hcv hcl ?_
        refine lv_astore (lv' := (4, .ref q9) :: [(0, .ref x0), (1, .int x1), (2, .int x2), (3, .ref o)]) fx.1 fx.2.1 dL_hang_13 hl (by decide) rfl (fun ls hl => ?_)
        refine lv_iconst (v := 1) fx.1 fx.2.1 dL_hang_15 (by decide) ?_
        exact g_iret fx hw hr dL_hang_16
      have h : (gCode [x_IAE, x_ISE] E 2).map (fun c => (c, G1)) = some (r, G') := by
        have h1 : (gCode (x_IOE :: [x_IAE, x_ISE]) E 1).map (fun c => (c, G1)) = some (r, G') := h
        rw [gCode, if_neg e0] at h1
        exact h1
      by_cases e1 : E = x_IAE
      · subst e1
        have h : some ((2 : Int32), G1) = some (r, G') := h
        cases h
        refine g_catch fx hS hN hxt [⟨0, 10, 13, 24⟩] ⟨0, 10, 17, 13⟩ [⟨0, 10, 21, 41⟩] rfl (by simp only [List.forall_mem_cons]; exact ⟨⟨by decide, x_IOE, lcl_24, by decide +kernel⟩, fun z hz => by cases hz⟩) (by decide) (by decide) lcl_13 lca_13 hce hcv hcl ?_
        refine lv_astore (lv' := (4, .ref q9) :: [(0, .ref x0), (1, .int x1), (2, .int x2), (3, .ref o)]) fx.1 fx.2.1 dL_hang_17 hl (by decide) rfl (fun ls hl => ?_)
        refine lv_iconst (v := 2) fx.1 fx.2.1 dL_hang_19 (by decide) ?_
        exact g_iret fx hw hr dL_hang_20
      have h : (gCode [x_ISE] E 3).map (fun c => (c, G1)) = some (r, G') := by
        have h1 : (gCode (x_IAE :: [x_ISE]) E 2).map (fun c => (c, G1)) = some (r, G') := h
        rw [gCode, if_neg e1] at h1
        exact h1
      by_cases e2 : E = x_ISE
      · subst e2
        have h : some ((3 : Int32), G1) = some (r, G') := h
        cases h
        refine g_catch fx hS hN hxt [⟨0, 10, 13, 24⟩, ⟨0, 10, 17, 13⟩] ⟨0, 10, 21, 41⟩ [] rfl (by simp only [List.forall_mem_cons]; exact ⟨⟨by decide, x_IOE, lcl_24, by decide +kernel⟩, ⟨by decide, x_IAE, lcl_13, by decide +kernel⟩, fun z hz => by cases hz⟩) (by decide) (by decide) lcl_41 lca_41 hce hcv hcl ?_
        refine lv_astore (lv' := (4, .ref q9) :: [(0, .ref x0), (1, .int x1), (2, .int x2), (3, .ref o)]) fx.1 fx.2.1 dL_hang_21 hl (by decide) rfl (fun ls hl => ?_)
        refine lv_iconst (v := 3) fx.1 fx.2.1 dL_hang_23 (by decide) ?_
        exact g_iret fx hw hr dL_hang_24
      have h : (gCode [] E 4).map (fun c => (c, G1)) = some (r, G') := by
        have h1 : (gCode (x_ISE :: []) E 3).map (fun c => (c, G1)) = some (r, G') := h
        rw [gCode, if_neg e2] at h1
        exact h1
      cases h
theorem dL_meet_0 : decode cL_meet 0 = .ok (.aload_n 3, 1) := by decide +kernel
theorem dL_meet_1 : decode cL_meet 1 = .ok (.iconst 0, 1) := by decide +kernel
theorem dL_meet_2 : decode cL_meet 2 = .ok (.aload_n 0, 1) := by decide +kernel
theorem dL_meet_3 : decode cL_meet 3 = .ok (.iload_n 1, 1) := by decide +kernel
theorem dL_meet_4 : decode cL_meet 4 = .ok (.iload_n 2, 1) := by decide +kernel
theorem dL_meet_5 : decode cL_meet 5 = .ok (.invokevirtual 60, 3) := by decide +kernel
theorem dL_meet_8 : decode cL_meet 8 = .ok (.i2l, 1) := by decide +kernel
theorem dL_meet_9 : decode cL_meet 9 = .ok (.lastore, 1) := by decide +kernel
theorem dL_meet_10 : decode cL_meet 10 = .ok (.goto 11, 3) := by decide +kernel
theorem dL_meet_13 : decode cL_meet 13 = .ok (.astore 4, 2) := by decide +kernel
theorem dL_meet_15 : decode cL_meet 15 = .ok (.iconst 1, 1) := by decide +kernel
theorem dL_meet_16 : decode cL_meet 16 = .ok (.ireturn, 1) := by decide +kernel
theorem dL_meet_17 : decode cL_meet 17 = .ok (.astore 4, 2) := by decide +kernel
theorem dL_meet_19 : decode cL_meet 19 = .ok (.iconst 2, 1) := by decide +kernel
theorem dL_meet_20 : decode cL_meet 20 = .ok (.ireturn, 1) := by decide +kernel
theorem dL_meet_21 : decode cL_meet 21 = .ok (.iconst 0, 1) := by decide +kernel
theorem dL_meet_22 : decode cL_meet 22 = .ok (.ireturn, 1) := by decide +kernel
def rm_L_meet : Room := { frames := 8, cells := 3, slots := 18, locals := 166 }
def hh_L_meet : List (Nat × Nat × Nat × Nat) := [(0, 10, 13, 24), (0, 10, 17, 41)]
def f_L_meet (τ : gτ) (n : Nat) (x0 : Nat) (x1 : Int32) (x2 : Int32) (o : Nat) (G : gG) : Option (Int32 × gG) :=
  gTry (f_X10_meet τ n x0 x1 x2 G) [x_IOE, x_ISE] fun v G => gchk (gIn 0 (gn τ o)) <| some (0, gsl G o 0 v.toInt64)
theorem lv_RL_60 : gLv RL 60 RX10 yX10_meet cX10_meet 6 (some .int) 2 := gLv_of (wA_t (wt5 (List.mem_of_getElem? (i := 202) (by decide +kernel))) (by decide +kernel)) (wA_t (wt5 (List.mem_of_getElem? (i := 203) (by decide +kernel))) (by decide +kernel)) (wA_t (wt5 (List.mem_of_getElem? (i := 204) (by decide +kernel))) (by decide +kernel)) (wA_t (wt1 (List.mem_of_getElem? (i := 1) (by decide +kernel))) (by decide +kernel)) (wA_t (wt5 (List.mem_of_getElem? (i := 205) (by decide +kernel))) (by decide +kernel)) ⟨rfl, by decide +kernel, by decide +kernel, by decide +kernel⟩
set_option maxHeartbeats 4000000 in
set_option maxRecDepth 100000 in
theorem c_L_meet (l : Launch) (X : gX) (τ : gτ) (n : Nat) (hS : gS0 l X) (hN : gS1 X) (x0 : Nat) (x1 : Int32) (x2 : Int32) (o : Nat) (G : gG) (h0 : gK τ x0 10) (ho : gK τ o 18) {r : Int32} {G' : gG} (h : f_L_meet τ n x0 x1 x2 o G = some (r, G')) : gMW l X τ yL_meet cL_meet 5 (some .int) hh_L_meet rm_L_meet [.ref x0, .int x1, .int x2, .ref o] G (some (.int r)) G' := by
  refine g_bodyW (by decide +kernel) (Nat.le_of_ble_eq_true rfl) ?_
  intro p e s m args below meth c ls fx hr hxt hw hl
  have fx : gFx X p s m args meth c cL_meet 5 RL := fx
  have hl : lv_has ls 5 [(0, .ref x0), (1, .int x1), (2, .int x2), (3, .ref o)] := hl
  show W p l e rm_L_meet s m args below meth c s.heap [] 0 0 (MQ below (gQ X τ (some (.int r)) G') args s rm_L_meet.cells rm_L_meet.slots (gFree X)) _
  unfold f_L_meet gTry at h
  refine lv_aload_n fx.1 fx.2.1 dL_meet_0 rfl (lv_at hl 3 rfl) ?_
  refine lv_iconst (v := 0) fx.1 fx.2.1 dL_meet_1 (by decide) ?_
  refine lv_aload_n fx.1 fx.2.1 dL_meet_2 rfl (lv_at hl 0 rfl) ?_
  refine lv_iload_n fx.1 fx.2.1 dL_meet_3 rfl (lv_at hl 1 rfl) ?_
  refine lv_iload_n fx.1 fx.2.1 dL_meet_4 rfl (lv_at hl 2 rfl) ?_
  cases hf : f_X10_meet τ n x0 x1 x2 G with
  | none => rw [hf] at h; cases h
  | some q =>
    obtain ⟨ov, G1⟩ := q
    rw [hf] at h
    cases ov with
    | inr v =>
      have hok : gOk (ρ := Int32 × gG) (gchk (gIn 0 (gn τ o)) (some (0, gsl G1 o 0 v.toInt64))) (fun q => q = (r, G')) := ⟨_, h, rfl⟩
      obtain ⟨hin, hok⟩ := gOk_chk hok
      refine g_callVC (κ := 10) (As := [.int x1, .int x2]) (rest := [.int 0, .ref o]) fx hw (c_X10_meet l X τ n hS x0 x1 x2 G h0 hf) lv_RL_60 rfl rfl h0 rfl hl.1 rfl ⟨Nat.le_of_ble_eq_true rfl, Nat.le_of_ble_eq_true rfl⟩ (Nat.le_of_ble_eq_true rfl) ⟨Nat.le_of_ble_eq_true rfl, Nat.le_of_ble_eq_true rfl⟩ dL_meet_5 (fun u9 H locs hv hw => ?_) (fun E9 q9 ce H locs hE => by have hE : (Sum.inr (some (.int v)) : String ⊕ Option Value) = Sum.inl E9 := hE; cases hE)
      have hv : (Sum.inr (some (.int v)) : String ⊕ Option Value) = Sum.inr u9 := hv
      cases hv
      cases gOk_some hok
      refine lv_i2l (v := v.toInt64) fx.1 fx.2.1 dL_meet_8 rfl ?_
      refine g_last fx hw ho hin dL_meet_9 (fun H locs hw => ?_)
      refine lv_goto (tgt := 21) fx.1 fx.2.1 dL_meet_10 (by decide) ?_
      refine lv_iconst (v := 0) fx.1 fx.2.1 dL_meet_21 (by decide) ?_
      exact g_iret fx hw hr dL_meet_22
    | inl E =>
      refine g_callVC (κ := 10) (As := [.int x1, .int x2]) (rest := [.int 0, .ref o]) fx hw (c_X10_meet l X τ n hS x0 x1 x2 G h0 hf) lv_RL_60 rfl rfl h0 rfl hl.1 rfl ⟨Nat.le_of_ble_eq_true rfl, Nat.le_of_ble_eq_true rfl⟩ (Nat.le_of_ble_eq_true rfl) ⟨Nat.le_of_ble_eq_true rfl, Nat.le_of_ble_eq_true rfl⟩ dL_meet_5 (fun u9 H locs hv => by have hv : (Sum.inl E : String ⊕ Option Value) = Sum.inr u9 := hv; cases hv) (fun E9 q9 ce H locs hE hw hce hcv hcl => ?_)
      have hE : (Sum.inl E : String ⊕ Option Value) = Sum.inl E9 := hE
      cases hE
      by_cases e0 : E = x_IOE
      · subst e0
        have h : some ((1 : Int32), G1) = some (r, G') := h
        cases h
        refine g_catch fx hS hN hxt [] ⟨0, 10, 13, 24⟩ [⟨0, 10, 17, 41⟩] rfl (fun z hz => by cases hz) (by decide) (by decide) lcl_24 lca_24 hce hcv hcl ?_
        refine lv_astore (lv' := (4, .ref q9) :: [(0, .ref x0), (1, .int x1), (2, .int x2), (3, .ref o)]) fx.1 fx.2.1 dL_meet_13 hl (by decide) rfl (fun ls hl => ?_)
        refine lv_iconst (v := 1) fx.1 fx.2.1 dL_meet_15 (by decide) ?_
        exact g_iret fx hw hr dL_meet_16
      have h : (gCode [x_ISE] E 2).map (fun c => (c, G1)) = some (r, G') := by
        have h1 : (gCode (x_IOE :: [x_ISE]) E 1).map (fun c => (c, G1)) = some (r, G') := h
        rw [gCode, if_neg e0] at h1
        exact h1
      by_cases e1 : E = x_ISE
      · subst e1
        have h : some ((2 : Int32), G1) = some (r, G') := h
        cases h
        refine g_catch fx hS hN hxt [⟨0, 10, 13, 24⟩] ⟨0, 10, 17, 41⟩ [] rfl (by simp only [List.forall_mem_cons]; exact ⟨⟨by decide, x_IOE, lcl_24, by decide +kernel⟩, fun z hz => by cases hz⟩) (by decide) (by decide) lcl_41 lca_41 hce hcv hcl ?_
        refine lv_astore (lv' := (4, .ref q9) :: [(0, .ref x0), (1, .int x1), (2, .int x2), (3, .ref o)]) fx.1 fx.2.1 dL_meet_17 hl (by decide) rfl (fun ls hl => ?_)
        refine lv_iconst (v := 2) fx.1 fx.2.1 dL_meet_19 (by decide) ?_
        exact g_iret fx hw hr dL_meet_20
      have h : (gCode [] E 3).map (fun c => (c, G1)) = some (r, G') := by
        have h1 : (gCode (x_ISE :: []) E 2).map (fun c => (c, G1)) = some (r, G') := h
        rw [gCode, if_neg e1] at h1
        exact h1
      cases h
theorem dL_pick_0 : decode cL_pick 0 = .ok (.aload_n 2, 1) := by decide +kernel
theorem dL_pick_1 : decode cL_pick 1 = .ok (.iconst 0, 1) := by decide +kernel
theorem dL_pick_2 : decode cL_pick 2 = .ok (.aload_n 0, 1) := by decide +kernel
theorem dL_pick_3 : decode cL_pick 3 = .ok (.iload_n 1, 1) := by decide +kernel
theorem dL_pick_4 : decode cL_pick 4 = .ok (.invokevirtual 63, 3) := by decide +kernel
theorem dL_pick_7 : decode cL_pick 7 = .ok (.i2l, 1) := by decide +kernel
theorem dL_pick_8 : decode cL_pick 8 = .ok (.lastore, 1) := by decide +kernel
theorem dL_pick_9 : decode cL_pick 9 = .ok (.goto 6, 3) := by decide +kernel
theorem dL_pick_12 : decode cL_pick 12 = .ok (.astore_n 3, 1) := by decide +kernel
theorem dL_pick_13 : decode cL_pick 13 = .ok (.iconst 1, 1) := by decide +kernel
theorem dL_pick_14 : decode cL_pick 14 = .ok (.ireturn, 1) := by decide +kernel
theorem dL_pick_15 : decode cL_pick 15 = .ok (.iconst 0, 1) := by decide +kernel
theorem dL_pick_16 : decode cL_pick 16 = .ok (.ireturn, 1) := by decide +kernel
def rm_L_pick : Room := { frames := 8, cells := 1, slots := 6, locals := 162 }
def hh_L_pick : List (Nat × Nat × Nat × Nat) := [(0, 9, 12, 24)]
def f_L_pick (τ : gτ) (n : Nat) (x0 : Nat) (x1 : Int32) (o : Nat) (G : gG) : Option (Int32 × gG) :=
  gTry (f_X10_pick τ n x0 x1 G) [x_IOE] fun v G => gchk (gIn 0 (gn τ o)) <| some (0, gsl G o 0 v.toInt64)
theorem lv_RL_63 : gLv RL 63 RX10 yX10_pick cX10_pick 2 (some .int) 1 := gLv_of (wA_t (wt5 (List.mem_of_getElem? (i := 214) (by decide +kernel))) (by decide +kernel)) (wA_t (wt5 (List.mem_of_getElem? (i := 215) (by decide +kernel))) (by decide +kernel)) (wA_t (wt5 (List.mem_of_getElem? (i := 216) (by decide +kernel))) (by decide +kernel)) (wA_t (wt1 (List.mem_of_getElem? (i := 1) (by decide +kernel))) (by decide +kernel)) (wA_t (wt5 (List.mem_of_getElem? (i := 217) (by decide +kernel))) (by decide +kernel)) ⟨rfl, by decide +kernel, by decide +kernel, by decide +kernel⟩
set_option maxHeartbeats 4000000 in
set_option maxRecDepth 100000 in
theorem c_L_pick (l : Launch) (X : gX) (τ : gτ) (n : Nat) (hS : gS0 l X) (hN : gS1 X) (x0 : Nat) (x1 : Int32) (o : Nat) (G : gG) (h0 : gK τ x0 10) (ho : gK τ o 18) {r : Int32} {G' : gG} (h : f_L_pick τ n x0 x1 o G = some (r, G')) : gMW l X τ yL_pick cL_pick 4 (some .int) hh_L_pick rm_L_pick [.ref x0, .int x1, .ref o] G (some (.int r)) G' := by
  refine g_bodyW (by decide +kernel) (Nat.le_of_ble_eq_true rfl) ?_
  intro p e s m args below meth c ls fx hr hxt hw hl
  have fx : gFx X p s m args meth c cL_pick 4 RL := fx
  have hl : lv_has ls 4 [(0, .ref x0), (1, .int x1), (2, .ref o)] := hl
  show W p l e rm_L_pick s m args below meth c s.heap [] 0 0 (MQ below (gQ X τ (some (.int r)) G') args s rm_L_pick.cells rm_L_pick.slots (gFree X)) _
  unfold f_L_pick gTry at h
  refine lv_aload_n fx.1 fx.2.1 dL_pick_0 rfl (lv_at hl 2 rfl) ?_
  refine lv_iconst (v := 0) fx.1 fx.2.1 dL_pick_1 (by decide) ?_
  refine lv_aload_n fx.1 fx.2.1 dL_pick_2 rfl (lv_at hl 0 rfl) ?_
  refine lv_iload_n fx.1 fx.2.1 dL_pick_3 rfl (lv_at hl 1 rfl) ?_
  cases hf : f_X10_pick τ n x0 x1 G with
  | none => rw [hf] at h; cases h
  | some q =>
    obtain ⟨ov, G1⟩ := q
    rw [hf] at h
    cases ov with
    | inr v =>
      have hok : gOk (ρ := Int32 × gG) (gchk (gIn 0 (gn τ o)) (some (0, gsl G1 o 0 v.toInt64))) (fun q => q = (r, G')) := ⟨_, h, rfl⟩
      obtain ⟨hin, hok⟩ := gOk_chk hok
      refine g_callVC (κ := 10) (As := [.int x1]) (rest := [.int 0, .ref o]) fx hw (c_X10_pick l X τ n hS x0 x1 G h0 hf) lv_RL_63 rfl rfl h0 rfl hl.1 rfl ⟨Nat.le_of_ble_eq_true rfl, Nat.le_of_ble_eq_true rfl⟩ (Nat.le_of_ble_eq_true rfl) ⟨Nat.le_of_ble_eq_true rfl, Nat.le_of_ble_eq_true rfl⟩ dL_pick_4 (fun u9 H locs hv hw => ?_) (fun E9 q9 ce H locs hE => by have hE : (Sum.inr (some (.int v)) : String ⊕ Option Value) = Sum.inl E9 := hE; cases hE)
      have hv : (Sum.inr (some (.int v)) : String ⊕ Option Value) = Sum.inr u9 := hv
      cases hv
      cases gOk_some hok
      refine lv_i2l (v := v.toInt64) fx.1 fx.2.1 dL_pick_7 rfl ?_
      refine g_last fx hw ho hin dL_pick_8 (fun H locs hw => ?_)
      refine lv_goto (tgt := 15) fx.1 fx.2.1 dL_pick_9 (by decide) ?_
      refine lv_iconst (v := 0) fx.1 fx.2.1 dL_pick_15 (by decide) ?_
      exact g_iret fx hw hr dL_pick_16
    | inl E =>
      refine g_callVC (κ := 10) (As := [.int x1]) (rest := [.int 0, .ref o]) fx hw (c_X10_pick l X τ n hS x0 x1 G h0 hf) lv_RL_63 rfl rfl h0 rfl hl.1 rfl ⟨Nat.le_of_ble_eq_true rfl, Nat.le_of_ble_eq_true rfl⟩ (Nat.le_of_ble_eq_true rfl) ⟨Nat.le_of_ble_eq_true rfl, Nat.le_of_ble_eq_true rfl⟩ dL_pick_4 (fun u9 H locs hv => by have hv : (Sum.inl E : String ⊕ Option Value) = Sum.inr u9 := hv; cases hv) (fun E9 q9 ce H locs hE hw hce hcv hcl => ?_)
      have hE : (Sum.inl E : String ⊕ Option Value) = Sum.inl E9 := hE
      cases hE
      by_cases e0 : E = x_IOE
      · subst e0
        have h : some ((1 : Int32), G1) = some (r, G') := h
        cases h
        refine g_catch fx hS hN hxt [] ⟨0, 9, 12, 24⟩ [] rfl (fun z hz => by cases hz) (by decide) (by decide) lcl_24 lca_24 hce hcv hcl ?_
        refine lv_astore_n (lv' := (3, .ref q9) :: [(0, .ref x0), (1, .int x1), (2, .ref o)]) fx.1 fx.2.1 dL_pick_12 rfl hl (by decide) rfl (fun ls hl => ?_)
        refine lv_iconst (v := 1) fx.1 fx.2.1 dL_pick_13 (by decide) ?_
        exact g_iret fx hw hr dL_pick_14
      have h : (gCode [] E 2).map (fun c => (c, G1)) = some (r, G') := by
        have h1 : (gCode (x_IOE :: []) E 1).map (fun c => (c, G1)) = some (r, G') := h
        rw [gCode, if_neg e0] at h1
        exact h1
      cases h
theorem dL_seasons_0 : decode cL_seasons 0 = .ok (.aload_n 2, 1) := by decide +kernel
theorem dL_seasons_1 : decode cL_seasons 1 = .ok (.iconst 0, 1) := by decide +kernel
theorem dL_seasons_2 : decode cL_seasons 2 = .ok (.aload_n 0, 1) := by decide +kernel
theorem dL_seasons_3 : decode cL_seasons 3 = .ok (.iload_n 1, 1) := by decide +kernel
theorem dL_seasons_4 : decode cL_seasons 4 = .ok (.invokevirtual 66, 3) := by decide +kernel
theorem dL_seasons_7 : decode cL_seasons 7 = .ok (.i2l, 1) := by decide +kernel
theorem dL_seasons_8 : decode cL_seasons 8 = .ok (.lastore, 1) := by decide +kernel
theorem dL_seasons_9 : decode cL_seasons 9 = .ok (.goto 6, 3) := by decide +kernel
theorem dL_seasons_12 : decode cL_seasons 12 = .ok (.astore_n 3, 1) := by decide +kernel
theorem dL_seasons_13 : decode cL_seasons 13 = .ok (.iconst 1, 1) := by decide +kernel
theorem dL_seasons_14 : decode cL_seasons 14 = .ok (.ireturn, 1) := by decide +kernel
theorem dL_seasons_15 : decode cL_seasons 15 = .ok (.iconst 0, 1) := by decide +kernel
theorem dL_seasons_16 : decode cL_seasons 16 = .ok (.ireturn, 1) := by decide +kernel
def rm_L_seasons : Room := { frames := 8, cells := 1, slots := 6, locals := 189 }
def hh_L_seasons : List (Nat × Nat × Nat × Nat) := [(0, 9, 12, 13)]
def f_L_seasons (τ : gτ) (n : Nat) (x0 : Nat) (x1 : Int32) (o : Nat) (G : gG) : Option (Int32 × gG) :=
  gTry (f_X10_seasons τ n x0 x1 G) [x_IAE] fun v G => gchk (gIn 0 (gn τ o)) <| some (0, gsl G o 0 v.toInt64)
theorem lv_RL_66 : gLv RL 66 RX10 yX10_seasons cX10_seasons 3 (some .int) 1 := gLv_of (wA_t (wt5 (List.mem_of_getElem? (i := 225) (by decide +kernel))) (by decide +kernel)) (wA_t (wt5 (List.mem_of_getElem? (i := 226) (by decide +kernel))) (by decide +kernel)) (wA_t (wt5 (List.mem_of_getElem? (i := 227) (by decide +kernel))) (by decide +kernel)) (wA_t (wt1 (List.mem_of_getElem? (i := 1) (by decide +kernel))) (by decide +kernel)) (wA_t (wt5 (List.mem_of_getElem? (i := 228) (by decide +kernel))) (by decide +kernel)) ⟨rfl, by decide +kernel, by decide +kernel, by decide +kernel⟩
set_option maxHeartbeats 4000000 in
set_option maxRecDepth 100000 in
theorem c_L_seasons (l : Launch) (X : gX) (τ : gτ) (n : Nat) (hS : gS0 l X) (hN : gS1 X) (x0 : Nat) (x1 : Int32) (o : Nat) (G : gG) (h0 : gK τ x0 10) (ho : gK τ o 18) {r : Int32} {G' : gG} (h : f_L_seasons τ n x0 x1 o G = some (r, G')) : gMW l X τ yL_seasons cL_seasons 4 (some .int) hh_L_seasons rm_L_seasons [.ref x0, .int x1, .ref o] G (some (.int r)) G' := by
  refine g_bodyW (by decide +kernel) (Nat.le_of_ble_eq_true rfl) ?_
  intro p e s m args below meth c ls fx hr hxt hw hl
  have fx : gFx X p s m args meth c cL_seasons 4 RL := fx
  have hl : lv_has ls 4 [(0, .ref x0), (1, .int x1), (2, .ref o)] := hl
  show W p l e rm_L_seasons s m args below meth c s.heap [] 0 0 (MQ below (gQ X τ (some (.int r)) G') args s rm_L_seasons.cells rm_L_seasons.slots (gFree X)) _
  unfold f_L_seasons gTry at h
  refine lv_aload_n fx.1 fx.2.1 dL_seasons_0 rfl (lv_at hl 2 rfl) ?_
  refine lv_iconst (v := 0) fx.1 fx.2.1 dL_seasons_1 (by decide) ?_
  refine lv_aload_n fx.1 fx.2.1 dL_seasons_2 rfl (lv_at hl 0 rfl) ?_
  refine lv_iload_n fx.1 fx.2.1 dL_seasons_3 rfl (lv_at hl 1 rfl) ?_
  cases hf : f_X10_seasons τ n x0 x1 G with
  | none => rw [hf] at h; cases h
  | some q =>
    obtain ⟨ov, G1⟩ := q
    rw [hf] at h
    cases ov with
    | inr v =>
      have hok : gOk (ρ := Int32 × gG) (gchk (gIn 0 (gn τ o)) (some (0, gsl G1 o 0 v.toInt64))) (fun q => q = (r, G')) := ⟨_, h, rfl⟩
      obtain ⟨hin, hok⟩ := gOk_chk hok
      refine g_callVC (κ := 10) (As := [.int x1]) (rest := [.int 0, .ref o]) fx hw (c_X10_seasons l X τ n hS x0 x1 G h0 hf) lv_RL_66 rfl rfl h0 rfl hl.1 rfl ⟨Nat.le_of_ble_eq_true rfl, Nat.le_of_ble_eq_true rfl⟩ (Nat.le_of_ble_eq_true rfl) ⟨Nat.le_of_ble_eq_true rfl, Nat.le_of_ble_eq_true rfl⟩ dL_seasons_4 (fun u9 H locs hv hw => ?_) (fun E9 q9 ce H locs hE => by have hE : (Sum.inr (some (.int v)) : String ⊕ Option Value) = Sum.inl E9 := hE; cases hE)
      have hv : (Sum.inr (some (.int v)) : String ⊕ Option Value) = Sum.inr u9 := hv
      cases hv
      cases gOk_some hok
      refine lv_i2l (v := v.toInt64) fx.1 fx.2.1 dL_seasons_7 rfl ?_
      refine g_last fx hw ho hin dL_seasons_8 (fun H locs hw => ?_)
      refine lv_goto (tgt := 15) fx.1 fx.2.1 dL_seasons_9 (by decide) ?_
      refine lv_iconst (v := 0) fx.1 fx.2.1 dL_seasons_15 (by decide) ?_
      exact g_iret fx hw hr dL_seasons_16
    | inl E =>
      refine g_callVC (κ := 10) (As := [.int x1]) (rest := [.int 0, .ref o]) fx hw (c_X10_seasons l X τ n hS x0 x1 G h0 hf) lv_RL_66 rfl rfl h0 rfl hl.1 rfl ⟨Nat.le_of_ble_eq_true rfl, Nat.le_of_ble_eq_true rfl⟩ (Nat.le_of_ble_eq_true rfl) ⟨Nat.le_of_ble_eq_true rfl, Nat.le_of_ble_eq_true rfl⟩ dL_seasons_4 (fun u9 H locs hv => by have hv : (Sum.inl E : String ⊕ Option Value) = Sum.inr u9 := hv; cases hv) (fun E9 q9 ce H locs hE hw hce hcv hcl => ?_)
      have hE : (Sum.inl E : String ⊕ Option Value) = Sum.inl E9 := hE
      cases hE
      by_cases e0 : E = x_IAE
      · subst e0
        have h : some ((1 : Int32), G1) = some (r, G') := h
        cases h
        refine g_catch fx hS hN hxt [] ⟨0, 9, 12, 13⟩ [] rfl (fun z hz => by cases hz) (by decide) (by decide) lcl_13 lca_13 hce hcv hcl ?_
        refine lv_astore_n (lv' := (3, .ref q9) :: [(0, .ref x0), (1, .int x1), (2, .ref o)]) fx.1 fx.2.1 dL_seasons_12 rfl hl (by decide) rfl (fun ls hl => ?_)
        refine lv_iconst (v := 1) fx.1 fx.2.1 dL_seasons_13 (by decide) ?_
        exact g_iret fx hw hr dL_seasons_14
      have h : (gCode [] E 2).map (fun c => (c, G1)) = some (r, G') := by
        have h1 : (gCode (x_IAE :: []) E 1).map (fun c => (c, G1)) = some (r, G') := h
        rw [gCode, if_neg e0] at h1
        exact h1
      cases h
theorem dL_best_0 : decode cL_best 0 = .ok (.aload_n 2, 1) := by decide +kernel
theorem dL_best_1 : decode cL_best 1 = .ok (.iconst 0, 1) := by decide +kernel
theorem dL_best_2 : decode cL_best 2 = .ok (.aload_n 0, 1) := by decide +kernel
theorem dL_best_3 : decode cL_best 3 = .ok (.iload_n 1, 1) := by decide +kernel
theorem dL_best_4 : decode cL_best 4 = .ok (.invokevirtual 69, 3) := by decide +kernel
theorem dL_best_7 : decode cL_best 7 = .ok (.i2l, 1) := by decide +kernel
theorem dL_best_8 : decode cL_best 8 = .ok (.lastore, 1) := by decide +kernel
theorem dL_best_9 : decode cL_best 9 = .ok (.goto 6, 3) := by decide +kernel
theorem dL_best_12 : decode cL_best 12 = .ok (.astore_n 3, 1) := by decide +kernel
theorem dL_best_13 : decode cL_best 13 = .ok (.iconst 1, 1) := by decide +kernel
theorem dL_best_14 : decode cL_best 14 = .ok (.ireturn, 1) := by decide +kernel
theorem dL_best_15 : decode cL_best 15 = .ok (.iconst 0, 1) := by decide +kernel
theorem dL_best_16 : decode cL_best 16 = .ok (.ireturn, 1) := by decide +kernel
def rm_L_best : Room := { frames := 8, cells := 1, slots := 6, locals := 169 }
def hh_L_best : List (Nat × Nat × Nat × Nat) := [(0, 9, 12, 13)]
def f_L_best (τ : gτ) (n : Nat) (x0 : Nat) (x1 : Int32) (o : Nat) (G : gG) : Option (Int32 × gG) :=
  gTry (f_X10_best τ n x0 x1 G) [x_IAE] fun v G => gchk (gIn 0 (gn τ o)) <| some (0, gsl G o 0 v.toInt64)
theorem lv_RL_69 : gLv RL 69 RX10 yX10_best cX10_best 8 (some .int) 1 := gLv_of (wA_t (wt6 (List.mem_of_getElem? (i := 24) (by decide +kernel))) (by decide +kernel)) (wA_t (wt6 (List.mem_of_getElem? (i := 25) (by decide +kernel))) (by decide +kernel)) (wA_t (wt6 (List.mem_of_getElem? (i := 26) (by decide +kernel))) (by decide +kernel)) (wA_t (wt1 (List.mem_of_getElem? (i := 1) (by decide +kernel))) (by decide +kernel)) (wA_t (wt6 (List.mem_of_getElem? (i := 27) (by decide +kernel))) (by decide +kernel)) ⟨rfl, by decide +kernel, by decide +kernel, by decide +kernel⟩
set_option maxHeartbeats 4000000 in
set_option maxRecDepth 100000 in
theorem c_L_best (l : Launch) (X : gX) (τ : gτ) (n : Nat) (hS : gS0 l X) (hN : gS1 X) (x0 : Nat) (x1 : Int32) (o : Nat) (G : gG) (h0 : gK τ x0 10) (ho : gK τ o 18) {r : Int32} {G' : gG} (h : f_L_best τ n x0 x1 o G = some (r, G')) : gMW l X τ yL_best cL_best 4 (some .int) hh_L_best rm_L_best [.ref x0, .int x1, .ref o] G (some (.int r)) G' := by
  refine g_bodyW (by decide +kernel) (Nat.le_of_ble_eq_true rfl) ?_
  intro p e s m args below meth c ls fx hr hxt hw hl
  have fx : gFx X p s m args meth c cL_best 4 RL := fx
  have hl : lv_has ls 4 [(0, .ref x0), (1, .int x1), (2, .ref o)] := hl
  show W p l e rm_L_best s m args below meth c s.heap [] 0 0 (MQ below (gQ X τ (some (.int r)) G') args s rm_L_best.cells rm_L_best.slots (gFree X)) _
  unfold f_L_best gTry at h
  refine lv_aload_n fx.1 fx.2.1 dL_best_0 rfl (lv_at hl 2 rfl) ?_
  refine lv_iconst (v := 0) fx.1 fx.2.1 dL_best_1 (by decide) ?_
  refine lv_aload_n fx.1 fx.2.1 dL_best_2 rfl (lv_at hl 0 rfl) ?_
  refine lv_iload_n fx.1 fx.2.1 dL_best_3 rfl (lv_at hl 1 rfl) ?_
  cases hf : f_X10_best τ n x0 x1 G with
  | none => rw [hf] at h; cases h
  | some q =>
    obtain ⟨ov, G1⟩ := q
    rw [hf] at h
    cases ov with
    | inr v =>
      have hok : gOk (ρ := Int32 × gG) (gchk (gIn 0 (gn τ o)) (some (0, gsl G1 o 0 v.toInt64))) (fun q => q = (r, G')) := ⟨_, h, rfl⟩
      obtain ⟨hin, hok⟩ := gOk_chk hok
      refine g_callVC (κ := 10) (As := [.int x1]) (rest := [.int 0, .ref o]) fx hw (c_X10_best l X τ n hS x0 x1 G h0 hf) lv_RL_69 rfl rfl h0 rfl hl.1 rfl ⟨Nat.le_of_ble_eq_true rfl, Nat.le_of_ble_eq_true rfl⟩ (Nat.le_of_ble_eq_true rfl) ⟨Nat.le_of_ble_eq_true rfl, Nat.le_of_ble_eq_true rfl⟩ dL_best_4 (fun u9 H locs hv hw => ?_) (fun E9 q9 ce H locs hE => by have hE : (Sum.inr (some (.int v)) : String ⊕ Option Value) = Sum.inl E9 := hE; cases hE)
      have hv : (Sum.inr (some (.int v)) : String ⊕ Option Value) = Sum.inr u9 := hv
      cases hv
      cases gOk_some hok
      refine lv_i2l (v := v.toInt64) fx.1 fx.2.1 dL_best_7 rfl ?_
      refine g_last fx hw ho hin dL_best_8 (fun H locs hw => ?_)
      refine lv_goto (tgt := 15) fx.1 fx.2.1 dL_best_9 (by decide) ?_
      refine lv_iconst (v := 0) fx.1 fx.2.1 dL_best_15 (by decide) ?_
      exact g_iret fx hw hr dL_best_16
    | inl E =>
      refine g_callVC (κ := 10) (As := [.int x1]) (rest := [.int 0, .ref o]) fx hw (c_X10_best l X τ n hS x0 x1 G h0 hf) lv_RL_69 rfl rfl h0 rfl hl.1 rfl ⟨Nat.le_of_ble_eq_true rfl, Nat.le_of_ble_eq_true rfl⟩ (Nat.le_of_ble_eq_true rfl) ⟨Nat.le_of_ble_eq_true rfl, Nat.le_of_ble_eq_true rfl⟩ dL_best_4 (fun u9 H locs hv => by have hv : (Sum.inl E : String ⊕ Option Value) = Sum.inr u9 := hv; cases hv) (fun E9 q9 ce H locs hE hw hce hcv hcl => ?_)
      have hE : (Sum.inl E : String ⊕ Option Value) = Sum.inl E9 := hE
      cases hE
      by_cases e0 : E = x_IAE
      · subst e0
        have h : some ((1 : Int32), G1) = some (r, G') := h
        cases h
        refine g_catch fx hS hN hxt [] ⟨0, 9, 12, 13⟩ [] rfl (fun z hz => by cases hz) (by decide) (by decide) lcl_13 lca_13 hce hcv hcl ?_
        refine lv_astore_n (lv' := (3, .ref q9) :: [(0, .ref x0), (1, .int x1), (2, .ref o)]) fx.1 fx.2.1 dL_best_12 rfl hl (by decide) rfl (fun ls hl => ?_)
        refine lv_iconst (v := 1) fx.1 fx.2.1 dL_best_13 (by decide) ?_
        exact g_iret fx hw hr dL_best_14
      have h : (gCode [] E 2).map (fun c => (c, G1)) = some (r, G') := by
        have h1 : (gCode (x_IAE :: []) E 1).map (fun c => (c, G1)) = some (r, G') := h
        rw [gCode, if_neg e0] at h1
        exact h1
      cases h
theorem dL_cheapest_0 : decode cL_cheapest 0 = .ok (.aload_n 2, 1) := by decide +kernel
theorem dL_cheapest_1 : decode cL_cheapest 1 = .ok (.iconst 0, 1) := by decide +kernel
theorem dL_cheapest_2 : decode cL_cheapest 2 = .ok (.aload_n 0, 1) := by decide +kernel
theorem dL_cheapest_3 : decode cL_cheapest 3 = .ok (.iload_n 1, 1) := by decide +kernel
theorem dL_cheapest_4 : decode cL_cheapest 4 = .ok (.invokevirtual 72, 3) := by decide +kernel
theorem dL_cheapest_7 : decode cL_cheapest 7 = .ok (.i2l, 1) := by decide +kernel
theorem dL_cheapest_8 : decode cL_cheapest 8 = .ok (.lastore, 1) := by decide +kernel
theorem dL_cheapest_9 : decode cL_cheapest 9 = .ok (.goto 6, 3) := by decide +kernel
theorem dL_cheapest_12 : decode cL_cheapest 12 = .ok (.astore_n 3, 1) := by decide +kernel
theorem dL_cheapest_13 : decode cL_cheapest 13 = .ok (.iconst 1, 1) := by decide +kernel
theorem dL_cheapest_14 : decode cL_cheapest 14 = .ok (.ireturn, 1) := by decide +kernel
theorem dL_cheapest_15 : decode cL_cheapest 15 = .ok (.iconst 0, 1) := by decide +kernel
theorem dL_cheapest_16 : decode cL_cheapest 16 = .ok (.ireturn, 1) := by decide +kernel
def rm_L_cheapest : Room := { frames := 8, cells := 1, slots := 6, locals := 169 }
def hh_L_cheapest : List (Nat × Nat × Nat × Nat) := [(0, 9, 12, 24)]
def f_L_cheapest (τ : gτ) (n : Nat) (x0 : Nat) (x1 : Int32) (o : Nat) (G : gG) : Option (Int32 × gG) :=
  gTry (f_X10_cheapest τ n x0 x1 G) [x_IOE] fun v G => gchk (gIn 0 (gn τ o)) <| some (0, gsl G o 0 v.toInt64)
theorem lv_RL_72 : gLv RL 72 RX10 yX10_cheapest cX10_cheapest 2 (some .int) 1 := gLv_of (wA_t (wt6 (List.mem_of_getElem? (i := 31) (by decide +kernel))) (by decide +kernel)) (wA_t (wt6 (List.mem_of_getElem? (i := 32) (by decide +kernel))) (by decide +kernel)) (wA_t (wt6 (List.mem_of_getElem? (i := 33) (by decide +kernel))) (by decide +kernel)) (wA_t (wt1 (List.mem_of_getElem? (i := 1) (by decide +kernel))) (by decide +kernel)) (wA_t (wt6 (List.mem_of_getElem? (i := 34) (by decide +kernel))) (by decide +kernel)) ⟨rfl, by decide +kernel, by decide +kernel, by decide +kernel⟩
set_option maxHeartbeats 4000000 in
set_option maxRecDepth 100000 in
theorem c_L_cheapest (l : Launch) (X : gX) (τ : gτ) (n : Nat) (hS : gS0 l X) (hN : gS1 X) (x0 : Nat) (x1 : Int32) (o : Nat) (G : gG) (h0 : gK τ x0 10) (ho : gK τ o 18) {r : Int32} {G' : gG} (h : f_L_cheapest τ n x0 x1 o G = some (r, G')) : gMW l X τ yL_cheapest cL_cheapest 4 (some .int) hh_L_cheapest rm_L_cheapest [.ref x0, .int x1, .ref o] G (some (.int r)) G' := by
  refine g_bodyW (by decide +kernel) (Nat.le_of_ble_eq_true rfl) ?_
  intro p e s m args below meth c ls fx hr hxt hw hl
  have fx : gFx X p s m args meth c cL_cheapest 4 RL := fx
  have hl : lv_has ls 4 [(0, .ref x0), (1, .int x1), (2, .ref o)] := hl
  show W p l e rm_L_cheapest s m args below meth c s.heap [] 0 0 (MQ below (gQ X τ (some (.int r)) G') args s rm_L_cheapest.cells rm_L_cheapest.slots (gFree X)) _
  unfold f_L_cheapest gTry at h
  refine lv_aload_n fx.1 fx.2.1 dL_cheapest_0 rfl (lv_at hl 2 rfl) ?_
  refine lv_iconst (v := 0) fx.1 fx.2.1 dL_cheapest_1 (by decide) ?_
  refine lv_aload_n fx.1 fx.2.1 dL_cheapest_2 rfl (lv_at hl 0 rfl) ?_
  refine lv_iload_n fx.1 fx.2.1 dL_cheapest_3 rfl (lv_at hl 1 rfl) ?_
  cases hf : f_X10_cheapest τ n x0 x1 G with
  | none => rw [hf] at h; cases h
  | some q =>
    obtain ⟨ov, G1⟩ := q
    rw [hf] at h
    cases ov with
    | inr v =>
      have hok : gOk (ρ := Int32 × gG) (gchk (gIn 0 (gn τ o)) (some (0, gsl G1 o 0 v.toInt64))) (fun q => q = (r, G')) := ⟨_, h, rfl⟩
      obtain ⟨hin, hok⟩ := gOk_chk hok
      refine g_callVC (κ := 10) (As := [.int x1]) (rest := [.int 0, .ref o]) fx hw (c_X10_cheapest l X τ n hS x0 x1 G h0 hf) lv_RL_72 rfl rfl h0 rfl hl.1 rfl ⟨Nat.le_of_ble_eq_true rfl, Nat.le_of_ble_eq_true rfl⟩ (Nat.le_of_ble_eq_true rfl) ⟨Nat.le_of_ble_eq_true rfl, Nat.le_of_ble_eq_true rfl⟩ dL_cheapest_4 (fun u9 H locs hv hw => ?_) (fun E9 q9 ce H locs hE => by have hE : (Sum.inr (some (.int v)) : String ⊕ Option Value) = Sum.inl E9 := hE; cases hE)
      have hv : (Sum.inr (some (.int v)) : String ⊕ Option Value) = Sum.inr u9 := hv
      cases hv
      cases gOk_some hok
      refine lv_i2l (v := v.toInt64) fx.1 fx.2.1 dL_cheapest_7 rfl ?_
      refine g_last fx hw ho hin dL_cheapest_8 (fun H locs hw => ?_)
      refine lv_goto (tgt := 15) fx.1 fx.2.1 dL_cheapest_9 (by decide) ?_
      refine lv_iconst (v := 0) fx.1 fx.2.1 dL_cheapest_15 (by decide) ?_
      exact g_iret fx hw hr dL_cheapest_16
    | inl E =>
      refine g_callVC (κ := 10) (As := [.int x1]) (rest := [.int 0, .ref o]) fx hw (c_X10_cheapest l X τ n hS x0 x1 G h0 hf) lv_RL_72 rfl rfl h0 rfl hl.1 rfl ⟨Nat.le_of_ble_eq_true rfl, Nat.le_of_ble_eq_true rfl⟩ (Nat.le_of_ble_eq_true rfl) ⟨Nat.le_of_ble_eq_true rfl, Nat.le_of_ble_eq_true rfl⟩ dL_cheapest_4 (fun u9 H locs hv => by have hv : (Sum.inl E : String ⊕ Option Value) = Sum.inr u9 := hv; cases hv) (fun E9 q9 ce H locs hE hw hce hcv hcl => ?_)
      have hE : (Sum.inl E : String ⊕ Option Value) = Sum.inl E9 := hE
      cases hE
      by_cases e0 : E = x_IOE
      · subst e0
        have h : some ((1 : Int32), G1) = some (r, G') := h
        cases h
        refine g_catch fx hS hN hxt [] ⟨0, 9, 12, 24⟩ [] rfl (fun z hz => by cases hz) (by decide) (by decide) lcl_24 lca_24 hce hcv hcl ?_
        refine lv_astore_n (lv' := (3, .ref q9) :: [(0, .ref x0), (1, .int x1), (2, .ref o)]) fx.1 fx.2.1 dL_cheapest_12 rfl hl (by decide) rfl (fun ls hl => ?_)
        refine lv_iconst (v := 1) fx.1 fx.2.1 dL_cheapest_13 (by decide) ?_
        exact g_iret fx hw hr dL_cheapest_14
      have h : (gCode [] E 2).map (fun c => (c, G1)) = some (r, G') := by
        have h1 : (gCode (x_IOE :: []) E 1).map (fun c => (c, G1)) = some (r, G') := h
        rw [gCode, if_neg e0] at h1
        exact h1
      cases h
theorem dL_cuts_0 : decode cL_cuts 0 = .ok (.aload_n 3, 1) := by decide +kernel
theorem dL_cuts_1 : decode cL_cuts 1 = .ok (.iconst 0, 1) := by decide +kernel
theorem dL_cuts_2 : decode cL_cuts 2 = .ok (.aload_n 0, 1) := by decide +kernel
theorem dL_cuts_3 : decode cL_cuts 3 = .ok (.iload_n 1, 1) := by decide +kernel
theorem dL_cuts_4 : decode cL_cuts 4 = .ok (.iload_n 2, 1) := by decide +kernel
theorem dL_cuts_5 : decode cL_cuts 5 = .ok (.invokevirtual 75, 3) := by decide +kernel
theorem dL_cuts_8 : decode cL_cuts 8 = .ok (.i2l, 1) := by decide +kernel
theorem dL_cuts_9 : decode cL_cuts 9 = .ok (.lastore, 1) := by decide +kernel
theorem dL_cuts_10 : decode cL_cuts 10 = .ok (.goto 7, 3) := by decide +kernel
theorem dL_cuts_13 : decode cL_cuts 13 = .ok (.astore 4, 2) := by decide +kernel
theorem dL_cuts_15 : decode cL_cuts 15 = .ok (.iconst 1, 1) := by decide +kernel
theorem dL_cuts_16 : decode cL_cuts 16 = .ok (.ireturn, 1) := by decide +kernel
theorem dL_cuts_17 : decode cL_cuts 17 = .ok (.iconst 0, 1) := by decide +kernel
theorem dL_cuts_18 : decode cL_cuts 18 = .ok (.ireturn, 1) := by decide +kernel
def rm_L_cuts : Room := { frames := 8, cells := 1, slots := 6, locals := 169 }
def hh_L_cuts : List (Nat × Nat × Nat × Nat) := [(0, 10, 13, 24)]
def f_L_cuts (τ : gτ) (n : Nat) (x0 : Nat) (x1 : Int32) (x2 : Int32) (o : Nat) (G : gG) : Option (Int32 × gG) :=
  gTry (f_X10_cuts τ n x0 x1 x2 G) [x_IOE] fun v G => gchk (gIn 0 (gn τ o)) <| some (0, gsl G o 0 v.toInt64)
theorem lv_RL_75 : gLv RL 75 RX10 yX10_cuts cX10_cuts 9 (some .int) 2 := gLv_of (wA_t (wt6 (List.mem_of_getElem? (i := 38) (by decide +kernel))) (by decide +kernel)) (wA_t (wt6 (List.mem_of_getElem? (i := 39) (by decide +kernel))) (by decide +kernel)) (wA_t (wt6 (List.mem_of_getElem? (i := 40) (by decide +kernel))) (by decide +kernel)) (wA_t (wt1 (List.mem_of_getElem? (i := 1) (by decide +kernel))) (by decide +kernel)) (wA_t (wt6 (List.mem_of_getElem? (i := 41) (by decide +kernel))) (by decide +kernel)) ⟨rfl, by decide +kernel, by decide +kernel, by decide +kernel⟩
set_option maxHeartbeats 4000000 in
set_option maxRecDepth 100000 in
theorem c_L_cuts (l : Launch) (X : gX) (τ : gτ) (n : Nat) (hS : gS0 l X) (hN : gS1 X) (x0 : Nat) (x1 : Int32) (x2 : Int32) (o : Nat) (G : gG) (h0 : gK τ x0 10) (ho : gK τ o 18) {r : Int32} {G' : gG} (h : f_L_cuts τ n x0 x1 x2 o G = some (r, G')) : gMW l X τ yL_cuts cL_cuts 5 (some .int) hh_L_cuts rm_L_cuts [.ref x0, .int x1, .int x2, .ref o] G (some (.int r)) G' := by
  refine g_bodyW (by decide +kernel) (Nat.le_of_ble_eq_true rfl) ?_
  intro p e s m args below meth c ls fx hr hxt hw hl
  have fx : gFx X p s m args meth c cL_cuts 5 RL := fx
  have hl : lv_has ls 5 [(0, .ref x0), (1, .int x1), (2, .int x2), (3, .ref o)] := hl
  show W p l e rm_L_cuts s m args below meth c s.heap [] 0 0 (MQ below (gQ X τ (some (.int r)) G') args s rm_L_cuts.cells rm_L_cuts.slots (gFree X)) _
  unfold f_L_cuts gTry at h
  refine lv_aload_n fx.1 fx.2.1 dL_cuts_0 rfl (lv_at hl 3 rfl) ?_
  refine lv_iconst (v := 0) fx.1 fx.2.1 dL_cuts_1 (by decide) ?_
  refine lv_aload_n fx.1 fx.2.1 dL_cuts_2 rfl (lv_at hl 0 rfl) ?_
  refine lv_iload_n fx.1 fx.2.1 dL_cuts_3 rfl (lv_at hl 1 rfl) ?_
  refine lv_iload_n fx.1 fx.2.1 dL_cuts_4 rfl (lv_at hl 2 rfl) ?_
  cases hf : f_X10_cuts τ n x0 x1 x2 G with
  | none => rw [hf] at h; cases h
  | some q =>
    obtain ⟨ov, G1⟩ := q
    rw [hf] at h
    cases ov with
    | inr v =>
      have hok : gOk (ρ := Int32 × gG) (gchk (gIn 0 (gn τ o)) (some (0, gsl G1 o 0 v.toInt64))) (fun q => q = (r, G')) := ⟨_, h, rfl⟩
      obtain ⟨hin, hok⟩ := gOk_chk hok
      refine g_callVC (κ := 10) (As := [.int x1, .int x2]) (rest := [.int 0, .ref o]) fx hw (c_X10_cuts l X τ n hS x0 x1 x2 G h0 hf) lv_RL_75 rfl rfl h0 rfl hl.1 rfl ⟨Nat.le_of_ble_eq_true rfl, Nat.le_of_ble_eq_true rfl⟩ (Nat.le_of_ble_eq_true rfl) ⟨Nat.le_of_ble_eq_true rfl, Nat.le_of_ble_eq_true rfl⟩ dL_cuts_5 (fun u9 H locs hv hw => ?_) (fun E9 q9 ce H locs hE => by have hE : (Sum.inr (some (.int v)) : String ⊕ Option Value) = Sum.inl E9 := hE; cases hE)
      have hv : (Sum.inr (some (.int v)) : String ⊕ Option Value) = Sum.inr u9 := hv
      cases hv
      cases gOk_some hok
      refine lv_i2l (v := v.toInt64) fx.1 fx.2.1 dL_cuts_8 rfl ?_
      refine g_last fx hw ho hin dL_cuts_9 (fun H locs hw => ?_)
      refine lv_goto (tgt := 17) fx.1 fx.2.1 dL_cuts_10 (by decide) ?_
      refine lv_iconst (v := 0) fx.1 fx.2.1 dL_cuts_17 (by decide) ?_
      exact g_iret fx hw hr dL_cuts_18
    | inl E =>
      refine g_callVC (κ := 10) (As := [.int x1, .int x2]) (rest := [.int 0, .ref o]) fx hw (c_X10_cuts l X τ n hS x0 x1 x2 G h0 hf) lv_RL_75 rfl rfl h0 rfl hl.1 rfl ⟨Nat.le_of_ble_eq_true rfl, Nat.le_of_ble_eq_true rfl⟩ (Nat.le_of_ble_eq_true rfl) ⟨Nat.le_of_ble_eq_true rfl, Nat.le_of_ble_eq_true rfl⟩ dL_cuts_5 (fun u9 H locs hv => by have hv : (Sum.inl E : String ⊕ Option Value) = Sum.inr u9 := hv; cases hv) (fun E9 q9 ce H locs hE hw hce hcv hcl => ?_)
      have hE : (Sum.inl E : String ⊕ Option Value) = Sum.inl E9 := hE
      cases hE
      by_cases e0 : E = x_IOE
      · subst e0
        have h : some ((1 : Int32), G1) = some (r, G') := h
        cases h
        refine g_catch fx hS hN hxt [] ⟨0, 10, 13, 24⟩ [] rfl (fun z hz => by cases hz) (by decide) (by decide) lcl_24 lca_24 hce hcv hcl ?_
        refine lv_astore (lv' := (4, .ref q9) :: [(0, .ref x0), (1, .int x1), (2, .int x2), (3, .ref o)]) fx.1 fx.2.1 dL_cuts_13 hl (by decide) rfl (fun ls hl => ?_)
        refine lv_iconst (v := 1) fx.1 fx.2.1 dL_cuts_15 (by decide) ?_
        exact g_iret fx hw hr dL_cuts_16
      have h : (gCode [] E 2).map (fun c => (c, G1)) = some (r, G') := by
        have h1 : (gCode (x_IOE :: []) E 1).map (fun c => (c, G1)) = some (r, G') := h
        rw [gCode, if_neg e0] at h1
        exact h1
      cases h
theorem dL_walks_0 : decode cL_walks 0 = .ok (.aload_n 2, 1) := by decide +kernel
theorem dL_walks_1 : decode cL_walks 1 = .ok (.iconst 0, 1) := by decide +kernel
theorem dL_walks_2 : decode cL_walks 2 = .ok (.aload_n 0, 1) := by decide +kernel
theorem dL_walks_3 : decode cL_walks 3 = .ok (.iload_n 1, 1) := by decide +kernel
theorem dL_walks_4 : decode cL_walks 4 = .ok (.invokevirtual 79, 3) := by decide +kernel
theorem dL_walks_7 : decode cL_walks 7 = .ok (.i2l, 1) := by decide +kernel
theorem dL_walks_8 : decode cL_walks 8 = .ok (.lastore, 1) := by decide +kernel
theorem dL_walks_9 : decode cL_walks 9 = .ok (.goto 6, 3) := by decide +kernel
theorem dL_walks_12 : decode cL_walks 12 = .ok (.astore_n 3, 1) := by decide +kernel
theorem dL_walks_13 : decode cL_walks 13 = .ok (.iconst 1, 1) := by decide +kernel
theorem dL_walks_14 : decode cL_walks 14 = .ok (.ireturn, 1) := by decide +kernel
theorem dL_walks_15 : decode cL_walks 15 = .ok (.iconst 0, 1) := by decide +kernel
theorem dL_walks_16 : decode cL_walks 16 = .ok (.ireturn, 1) := by decide +kernel
def rm_L_walks : Room := { frames := 8, cells := 1, slots := 6, locals := 166 }
def hh_L_walks : List (Nat × Nat × Nat × Nat) := [(0, 9, 12, 13)]
def f_L_walks (τ : gτ) (n : Nat) (x0 : Nat) (x1 : Int32) (o : Nat) (G : gG) : Option (Int32 × gG) :=
  gTry (f_X10_walks τ n x0 x1 G) [x_IAE] fun v G => gchk (gIn 0 (gn τ o)) <| some (0, gsl G o 0 v.toInt64)
theorem lv_RL_79 : gLv RL 79 RX10 yX10_walks cX10_walks 5 (some .int) 1 := gLv_of (wA_t (wt6 (List.mem_of_getElem? (i := 53) (by decide +kernel))) (by decide +kernel)) (wA_t (wt6 (List.mem_of_getElem? (i := 54) (by decide +kernel))) (by decide +kernel)) (wA_t (wt6 (List.mem_of_getElem? (i := 55) (by decide +kernel))) (by decide +kernel)) (wA_t (wt1 (List.mem_of_getElem? (i := 1) (by decide +kernel))) (by decide +kernel)) (wA_t (wt6 (List.mem_of_getElem? (i := 56) (by decide +kernel))) (by decide +kernel)) ⟨rfl, by decide +kernel, by decide +kernel, by decide +kernel⟩
set_option maxHeartbeats 4000000 in
set_option maxRecDepth 100000 in
theorem c_L_walks (l : Launch) (X : gX) (τ : gτ) (n : Nat) (hS : gS0 l X) (hN : gS1 X) (x0 : Nat) (x1 : Int32) (o : Nat) (G : gG) (h0 : gK τ x0 10) (ho : gK τ o 18) {r : Int32} {G' : gG} (h : f_L_walks τ n x0 x1 o G = some (r, G')) : gMW l X τ yL_walks cL_walks 4 (some .int) hh_L_walks rm_L_walks [.ref x0, .int x1, .ref o] G (some (.int r)) G' := by
  refine g_bodyW (by decide +kernel) (Nat.le_of_ble_eq_true rfl) ?_
  intro p e s m args below meth c ls fx hr hxt hw hl
  have fx : gFx X p s m args meth c cL_walks 4 RL := fx
  have hl : lv_has ls 4 [(0, .ref x0), (1, .int x1), (2, .ref o)] := hl
  show W p l e rm_L_walks s m args below meth c s.heap [] 0 0 (MQ below (gQ X τ (some (.int r)) G') args s rm_L_walks.cells rm_L_walks.slots (gFree X)) _
  unfold f_L_walks gTry at h
  refine lv_aload_n fx.1 fx.2.1 dL_walks_0 rfl (lv_at hl 2 rfl) ?_
  refine lv_iconst (v := 0) fx.1 fx.2.1 dL_walks_1 (by decide) ?_
  refine lv_aload_n fx.1 fx.2.1 dL_walks_2 rfl (lv_at hl 0 rfl) ?_
  refine lv_iload_n fx.1 fx.2.1 dL_walks_3 rfl (lv_at hl 1 rfl) ?_
  cases hf : f_X10_walks τ n x0 x1 G with
  | none => rw [hf] at h; cases h
  | some q =>
    obtain ⟨ov, G1⟩ := q
    rw [hf] at h
    cases ov with
    | inr v =>
      have hok : gOk (ρ := Int32 × gG) (gchk (gIn 0 (gn τ o)) (some (0, gsl G1 o 0 v.toInt64))) (fun q => q = (r, G')) := ⟨_, h, rfl⟩
      obtain ⟨hin, hok⟩ := gOk_chk hok
      refine g_callVC (κ := 10) (As := [.int x1]) (rest := [.int 0, .ref o]) fx hw (c_X10_walks l X τ n hS x0 x1 G h0 hf) lv_RL_79 rfl rfl h0 rfl hl.1 rfl ⟨Nat.le_of_ble_eq_true rfl, Nat.le_of_ble_eq_true rfl⟩ (Nat.le_of_ble_eq_true rfl) ⟨Nat.le_of_ble_eq_true rfl, Nat.le_of_ble_eq_true rfl⟩ dL_walks_4 (fun u9 H locs hv hw => ?_) (fun E9 q9 ce H locs hE => by have hE : (Sum.inr (some (.int v)) : String ⊕ Option Value) = Sum.inl E9 := hE; cases hE)
      have hv : (Sum.inr (some (.int v)) : String ⊕ Option Value) = Sum.inr u9 := hv
      cases hv
      cases gOk_some hok
      refine lv_i2l (v := v.toInt64) fx.1 fx.2.1 dL_walks_7 rfl ?_
      refine g_last fx hw ho hin dL_walks_8 (fun H locs hw => ?_)
      refine lv_goto (tgt := 15) fx.1 fx.2.1 dL_walks_9 (by decide) ?_
      refine lv_iconst (v := 0) fx.1 fx.2.1 dL_walks_15 (by decide) ?_
      exact g_iret fx hw hr dL_walks_16
    | inl E =>
      refine g_callVC (κ := 10) (As := [.int x1]) (rest := [.int 0, .ref o]) fx hw (c_X10_walks l X τ n hS x0 x1 G h0 hf) lv_RL_79 rfl rfl h0 rfl hl.1 rfl ⟨Nat.le_of_ble_eq_true rfl, Nat.le_of_ble_eq_true rfl⟩ (Nat.le_of_ble_eq_true rfl) ⟨Nat.le_of_ble_eq_true rfl, Nat.le_of_ble_eq_true rfl⟩ dL_walks_4 (fun u9 H locs hv => by have hv : (Sum.inl E : String ⊕ Option Value) = Sum.inr u9 := hv; cases hv) (fun E9 q9 ce H locs hE hw hce hcv hcl => ?_)
      have hE : (Sum.inl E : String ⊕ Option Value) = Sum.inl E9 := hE
      cases hE
      by_cases e0 : E = x_IAE
      · subst e0
        have h : some ((1 : Int32), G1) = some (r, G') := h
        cases h
        refine g_catch fx hS hN hxt [] ⟨0, 9, 12, 13⟩ [] rfl (fun z hz => by cases hz) (by decide) (by decide) lcl_13 lca_13 hce hcv hcl ?_
        refine lv_astore_n (lv' := (3, .ref q9) :: [(0, .ref x0), (1, .int x1), (2, .ref o)]) fx.1 fx.2.1 dL_walks_12 rfl hl (by decide) rfl (fun ls hl => ?_)
        refine lv_iconst (v := 1) fx.1 fx.2.1 dL_walks_13 (by decide) ?_
        exact g_iret fx hw hr dL_walks_14
      have h : (gCode [] E 2).map (fun c => (c, G1)) = some (r, G') := by
        have h1 : (gCode (x_IAE :: []) E 1).map (fun c => (c, G1)) = some (r, G') := h
        rw [gCode, if_neg e0] at h1
        exact h1
      cases h
theorem dL_share_0 : decode cL_share 0 = .ok (.aload 4, 2) := by decide +kernel
theorem dL_share_2 : decode cL_share 2 = .ok (.iconst 0, 1) := by decide +kernel
theorem dL_share_3 : decode cL_share 3 = .ok (.aload_n 0, 1) := by decide +kernel
theorem dL_share_4 : decode cL_share 4 = .ok (.iload_n 1, 1) := by decide +kernel
theorem dL_share_5 : decode cL_share 5 = .ok (.iload_n 2, 1) := by decide +kernel
theorem dL_share_6 : decode cL_share 6 = .ok (.iload_n 3, 1) := by decide +kernel
theorem dL_share_7 : decode cL_share 7 = .ok (.invokevirtual 82, 3) := by decide +kernel
theorem dL_share_10 : decode cL_share 10 = .ok (.i2l, 1) := by decide +kernel
theorem dL_share_11 : decode cL_share 11 = .ok (.lastore, 1) := by decide +kernel
theorem dL_share_12 : decode cL_share 12 = .ok (.goto 11, 3) := by decide +kernel
theorem dL_share_15 : decode cL_share 15 = .ok (.astore 5, 2) := by decide +kernel
theorem dL_share_17 : decode cL_share 17 = .ok (.iconst 1, 1) := by decide +kernel
theorem dL_share_18 : decode cL_share 18 = .ok (.ireturn, 1) := by decide +kernel
theorem dL_share_19 : decode cL_share 19 = .ok (.astore 5, 2) := by decide +kernel
theorem dL_share_21 : decode cL_share 21 = .ok (.iconst 2, 1) := by decide +kernel
theorem dL_share_22 : decode cL_share 22 = .ok (.ireturn, 1) := by decide +kernel
theorem dL_share_23 : decode cL_share 23 = .ok (.iconst 0, 1) := by decide +kernel
theorem dL_share_24 : decode cL_share 24 = .ok (.ireturn, 1) := by decide +kernel
def rm_L_share : Room := { frames := 9, cells := 5, slots := 30, locals := 188 }
def hh_L_share : List (Nat × Nat × Nat × Nat) := [(0, 12, 15, 24), (0, 12, 19, 13)]
def f_L_share (τ : gτ) (n : Nat) (x0 : Nat) (x1 : Int32) (x2 : Int32) (x3 : Int32) (o : Nat) (G : gG) : Option (Int32 × gG) :=
  gTry (f_X10_share τ n x0 x1 x2 x3 G) [x_IOE, x_IAE] fun v G => gchk (gIn 0 (gn τ o)) <| some (0, gsl G o 0 v.toInt64)
theorem lv_RL_82 : gLv RL 82 RX10 yX10_share cX10_share 4 (some .int) 3 := gLv_of (wA_t (wt6 (List.mem_of_getElem? (i := 65) (by decide +kernel))) (by decide +kernel)) (wA_t (wt6 (List.mem_of_getElem? (i := 66) (by decide +kernel))) (by decide +kernel)) (wA_t (wt6 (List.mem_of_getElem? (i := 67) (by decide +kernel))) (by decide +kernel)) (wA_t (wt1 (List.mem_of_getElem? (i := 1) (by decide +kernel))) (by decide +kernel)) (wA_t (wt6 (List.mem_of_getElem? (i := 68) (by decide +kernel))) (by decide +kernel)) ⟨rfl, by decide +kernel, by decide +kernel, by decide +kernel⟩
set_option maxHeartbeats 4000000 in
set_option maxRecDepth 100000 in
theorem c_L_share (l : Launch) (X : gX) (τ : gτ) (n : Nat) (hS : gS0 l X) (hN : gS1 X) (x0 : Nat) (x1 : Int32) (x2 : Int32) (x3 : Int32) (o : Nat) (G : gG) (h0 : gK τ x0 10) (ho : gK τ o 18) {r : Int32} {G' : gG} (h : f_L_share τ n x0 x1 x2 x3 o G = some (r, G')) : gMW l X τ yL_share cL_share 6 (some .int) hh_L_share rm_L_share [.ref x0, .int x1, .int x2, .int x3, .ref o] G (some (.int r)) G' := by
  refine g_bodyW (by decide +kernel) (Nat.le_of_ble_eq_true rfl) ?_
  intro p e s m args below meth c ls fx hr hxt hw hl
  have fx : gFx X p s m args meth c cL_share 6 RL := fx
  have hl : lv_has ls 6 [(0, .ref x0), (1, .int x1), (2, .int x2), (3, .int x3), (4, .ref o)] := hl
  show W p l e rm_L_share s m args below meth c s.heap [] 0 0 (MQ below (gQ X τ (some (.int r)) G') args s rm_L_share.cells rm_L_share.slots (gFree X)) _
  unfold f_L_share gTry at h
  refine lv_aload fx.1 fx.2.1 dL_share_0 (lv_at hl 4 rfl) ?_
  refine lv_iconst (v := 0) fx.1 fx.2.1 dL_share_2 (by decide) ?_
  refine lv_aload_n fx.1 fx.2.1 dL_share_3 rfl (lv_at hl 0 rfl) ?_
  refine lv_iload_n fx.1 fx.2.1 dL_share_4 rfl (lv_at hl 1 rfl) ?_
  refine lv_iload_n fx.1 fx.2.1 dL_share_5 rfl (lv_at hl 2 rfl) ?_
  refine lv_iload_n fx.1 fx.2.1 dL_share_6 rfl (lv_at hl 3 rfl) ?_
  cases hf : f_X10_share τ n x0 x1 x2 x3 G with
  | none => rw [hf] at h; cases h
  | some q =>
    obtain ⟨ov, G1⟩ := q
    rw [hf] at h
    cases ov with
    | inr v =>
      have hok : gOk (ρ := Int32 × gG) (gchk (gIn 0 (gn τ o)) (some (0, gsl G1 o 0 v.toInt64))) (fun q => q = (r, G')) := ⟨_, h, rfl⟩
      obtain ⟨hin, hok⟩ := gOk_chk hok
      refine g_callVC (κ := 10) (As := [.int x1, .int x2, .int x3]) (rest := [.int 0, .ref o]) fx hw (c_X10_share l X τ n hS x0 x1 x2 x3 G h0 hf) lv_RL_82 rfl rfl h0 rfl hl.1 rfl ⟨Nat.le_of_ble_eq_true rfl, Nat.le_of_ble_eq_true rfl⟩ (Nat.le_of_ble_eq_true rfl) ⟨Nat.le_of_ble_eq_true rfl, Nat.le_of_ble_eq_true rfl⟩ dL_share_7 (fun u9 H locs hv hw => ?_) (fun E9 q9 ce H locs hE => by have hE : (Sum.inr (some (.int v)) : String ⊕ Option Value) = Sum.inl E9 := hE; cases hE)
      have hv : (Sum.inr (some (.int v)) : String ⊕ Option Value) = Sum.inr u9 := hv
      cases hv
      cases gOk_some hok
      refine lv_i2l (v := v.toInt64) fx.1 fx.2.1 dL_share_10 rfl ?_
      refine g_last fx hw ho hin dL_share_11 (fun H locs hw => ?_)
      refine lv_goto (tgt := 23) fx.1 fx.2.1 dL_share_12 (by decide) ?_
      refine lv_iconst (v := 0) fx.1 fx.2.1 dL_share_23 (by decide) ?_
      exact g_iret fx hw hr dL_share_24
    | inl E =>
      refine g_callVC (κ := 10) (As := [.int x1, .int x2, .int x3]) (rest := [.int 0, .ref o]) fx hw (c_X10_share l X τ n hS x0 x1 x2 x3 G h0 hf) lv_RL_82 rfl rfl h0 rfl hl.1 rfl ⟨Nat.le_of_ble_eq_true rfl, Nat.le_of_ble_eq_true rfl⟩ (Nat.le_of_ble_eq_true rfl) ⟨Nat.le_of_ble_eq_true rfl, Nat.le_of_ble_eq_true rfl⟩ dL_share_7 (fun u9 H locs hv => by have hv : (Sum.inl E : String ⊕ Option Value) = Sum.inr u9 := hv; cases hv) (fun E9 q9 ce H locs hE hw hce hcv hcl => ?_)
      have hE : (Sum.inl E : String ⊕ Option Value) = Sum.inl E9 := hE
      cases hE
      by_cases e0 : E = x_IOE
      · subst e0
        have h : some ((1 : Int32), G1) = some (r, G') := h
        cases h
        refine g_catch fx hS hN hxt [] ⟨0, 12, 15, 24⟩ [⟨0, 12, 19, 13⟩] rfl (fun z hz => by cases hz) (by decide) (by decide) lcl_24 lca_24 hce hcv hcl ?_
        refine lv_astore (lv' := (5, .ref q9) :: [(0, .ref x0), (1, .int x1), (2, .int x2), (3, .int x3), (4, .ref o)]) fx.1 fx.2.1 dL_share_15 hl (by decide) rfl (fun ls hl => ?_)
        refine lv_iconst (v := 1) fx.1 fx.2.1 dL_share_17 (by decide) ?_
        exact g_iret fx hw hr dL_share_18
      have h : (gCode [x_IAE] E 2).map (fun c => (c, G1)) = some (r, G') := by
        have h1 : (gCode (x_IOE :: [x_IAE]) E 1).map (fun c => (c, G1)) = some (r, G') := h
        rw [gCode, if_neg e0] at h1
        exact h1
      by_cases e1 : E = x_IAE
      · subst e1
        have h : some ((2 : Int32), G1) = some (r, G') := h
        cases h
        refine g_catch fx hS hN hxt [⟨0, 12, 15, 24⟩] ⟨0, 12, 19, 13⟩ [] rfl (by simp only [List.forall_mem_cons]; exact ⟨⟨by decide, x_IOE, lcl_24, by decide +kernel⟩, fun z hz => by cases hz⟩) (by decide) (by decide) lcl_13 lca_13 hce hcv hcl ?_
        refine lv_astore (lv' := (5, .ref q9) :: [(0, .ref x0), (1, .int x1), (2, .int x2), (3, .int x3), (4, .ref o)]) fx.1 fx.2.1 dL_share_19 hl (by decide) rfl (fun ls hl => ?_)
        refine lv_iconst (v := 2) fx.1 fx.2.1 dL_share_21 (by decide) ?_
        exact g_iret fx hw hr dL_share_22
      have h : (gCode [] E 3).map (fun c => (c, G1)) = some (r, G') := by
        have h1 : (gCode (x_IAE :: []) E 2).map (fun c => (c, G1)) = some (r, G') := h
        rw [gCode, if_neg e1] at h1
        exact h1
      cases h
theorem dL_shared_0 : decode cL_shared 0 = .ok (.aload 4, 2) := by decide +kernel
theorem dL_shared_2 : decode cL_shared 2 = .ok (.iconst 0, 1) := by decide +kernel
theorem dL_shared_3 : decode cL_shared 3 = .ok (.aload_n 0, 1) := by decide +kernel
theorem dL_shared_4 : decode cL_shared 4 = .ok (.iload_n 1, 1) := by decide +kernel
theorem dL_shared_5 : decode cL_shared 5 = .ok (.iload_n 2, 1) := by decide +kernel
theorem dL_shared_6 : decode cL_shared 6 = .ok (.iload_n 3, 1) := by decide +kernel
theorem dL_shared_7 : decode cL_shared 7 = .ok (.invokevirtual 86, 3) := by decide +kernel
theorem dL_shared_10 : decode cL_shared 10 = .ok (.ifCond .eq 7, 3) := by decide +kernel
theorem dL_shared_13 : decode cL_shared 13 = .ok (.lconst 1, 1) := by decide +kernel
theorem dL_shared_14 : decode cL_shared 14 = .ok (.goto 4, 3) := by decide +kernel
theorem dL_shared_17 : decode cL_shared 17 = .ok (.lconst 0, 1) := by decide +kernel
theorem dL_shared_18 : decode cL_shared 18 = .ok (.lastore, 1) := by decide +kernel
theorem dL_shared_19 : decode cL_shared 19 = .ok (.goto 11, 3) := by decide +kernel
theorem dL_shared_22 : decode cL_shared 22 = .ok (.astore 5, 2) := by decide +kernel
theorem dL_shared_24 : decode cL_shared 24 = .ok (.iconst 1, 1) := by decide +kernel
theorem dL_shared_25 : decode cL_shared 25 = .ok (.ireturn, 1) := by decide +kernel
theorem dL_shared_26 : decode cL_shared 26 = .ok (.astore 5, 2) := by decide +kernel
theorem dL_shared_28 : decode cL_shared 28 = .ok (.iconst 2, 1) := by decide +kernel
theorem dL_shared_29 : decode cL_shared 29 = .ok (.ireturn, 1) := by decide +kernel
theorem dL_shared_30 : decode cL_shared 30 = .ok (.iconst 0, 1) := by decide +kernel
theorem dL_shared_31 : decode cL_shared 31 = .ok (.ireturn, 1) := by decide +kernel
def rm_L_shared : Room := { frames := 9, cells := 5, slots := 30, locals := 191 }
def hh_L_shared : List (Nat × Nat × Nat × Nat) := [(0, 19, 22, 24), (0, 19, 26, 13)]
def f_L_shared (τ : gτ) (n : Nat) (x0 : Nat) (x1 : Int32) (x2 : Int32) (x3 : Int32) (o : Nat) (G : gG) : Option (Int32 × gG) :=
  gTry (f_X10_shared τ n x0 x1 x2 x3 G) [x_IOE, x_IAE] fun v G => gchk (gIn 0 (gn τ o)) <| some (0, gsl G o 0 (if v = 0 then (0 : Int64) else 1))
theorem lv_RL_86 : gLv RL 86 RX10 yX10_shared cX10_shared 7 (some .boolean) 3 := gLv_of (wA_t (wt6 (List.mem_of_getElem? (i := 84) (by decide +kernel))) (by decide +kernel)) (wA_t (wt6 (List.mem_of_getElem? (i := 85) (by decide +kernel))) (by decide +kernel)) (wA_t (wt6 (List.mem_of_getElem? (i := 86) (by decide +kernel))) (by decide +kernel)) (wA_t (wt1 (List.mem_of_getElem? (i := 1) (by decide +kernel))) (by decide +kernel)) (wA_t (wt6 (List.mem_of_getElem? (i := 87) (by decide +kernel))) (by decide +kernel)) ⟨rfl, by decide +kernel, by decide +kernel, by decide +kernel⟩
set_option maxHeartbeats 4000000 in
set_option maxRecDepth 100000 in
theorem c_L_shared (l : Launch) (X : gX) (τ : gτ) (n : Nat) (hS : gS0 l X) (hN : gS1 X) (x0 : Nat) (x1 : Int32) (x2 : Int32) (x3 : Int32) (o : Nat) (G : gG) (h0 : gK τ x0 10) (ho : gK τ o 18) {r : Int32} {G' : gG} (h : f_L_shared τ n x0 x1 x2 x3 o G = some (r, G')) : gMW l X τ yL_shared cL_shared 6 (some .int) hh_L_shared rm_L_shared [.ref x0, .int x1, .int x2, .int x3, .ref o] G (some (.int r)) G' := by
  refine g_bodyW (by decide +kernel) (Nat.le_of_ble_eq_true rfl) ?_
  intro p e s m args below meth c ls fx hr hxt hw hl
  have fx : gFx X p s m args meth c cL_shared 6 RL := fx
  have hl : lv_has ls 6 [(0, .ref x0), (1, .int x1), (2, .int x2), (3, .int x3), (4, .ref o)] := hl
  show W p l e rm_L_shared s m args below meth c s.heap [] 0 0 (MQ below (gQ X τ (some (.int r)) G') args s rm_L_shared.cells rm_L_shared.slots (gFree X)) _
  unfold f_L_shared gTry at h
  refine lv_aload fx.1 fx.2.1 dL_shared_0 (lv_at hl 4 rfl) ?_
  refine lv_iconst (v := 0) fx.1 fx.2.1 dL_shared_2 (by decide) ?_
  refine lv_aload_n fx.1 fx.2.1 dL_shared_3 rfl (lv_at hl 0 rfl) ?_
  refine lv_iload_n fx.1 fx.2.1 dL_shared_4 rfl (lv_at hl 1 rfl) ?_
  refine lv_iload_n fx.1 fx.2.1 dL_shared_5 rfl (lv_at hl 2 rfl) ?_
  refine lv_iload_n fx.1 fx.2.1 dL_shared_6 rfl (lv_at hl 3 rfl) ?_
  cases hf : f_X10_shared τ n x0 x1 x2 x3 G with
  | none => rw [hf] at h; cases h
  | some q =>
    obtain ⟨ov, G1⟩ := q
    rw [hf] at h
    cases ov with
    | inr v =>
      have hok : gOk (ρ := Int32 × gG) (gchk (gIn 0 (gn τ o)) (some (0, gsl G1 o 0 (if v = 0 then (0 : Int64) else 1)))) (fun q => q = (r, G')) := ⟨_, h, rfl⟩
      obtain ⟨hin, hok⟩ := gOk_chk hok
      refine g_callVC (κ := 10) (As := [.int x1, .int x2, .int x3]) (rest := [.int 0, .ref o]) fx hw (c_X10_shared l X τ n hS x0 x1 x2 x3 G h0 hf) lv_RL_86 rfl rfl h0 rfl hl.1 rfl ⟨Nat.le_of_ble_eq_true rfl, Nat.le_of_ble_eq_true rfl⟩ (Nat.le_of_ble_eq_true rfl) ⟨Nat.le_of_ble_eq_true rfl, Nat.le_of_ble_eq_true rfl⟩ dL_shared_7 (fun u9 H locs hv hw => ?_) (fun E9 q9 ce H locs hE => by have hE : (Sum.inr (some (.int v)) : String ⊕ Option Value) = Sum.inl E9 := hE; cases hE)
      have hv : (Sum.inr (some (.int v)) : String ⊕ Option Value) = Sum.inr u9 := hv
      cases hv
      cases gOk_some hok
      refine lv_if_eq (tgt := 17) fx.1 fx.2.1 dL_shared_10 (by decide) (fun hb => ?_) (fun hb => ?_)
      · rw [if_pos hb]
        refine lv_lconst (v := 0) fx.1 fx.2.1 dL_shared_17 (by decide) ?_
        refine g_last fx hw ho hin dL_shared_18 (fun H locs hw => ?_)
        refine lv_goto (tgt := 30) fx.1 fx.2.1 dL_shared_19 (by decide) ?_
        refine lv_iconst (v := 0) fx.1 fx.2.1 dL_shared_30 (by decide) ?_
        exact g_iret fx hw hr dL_shared_31
      · rw [if_neg hb]
        refine lv_lconst (v := 1) fx.1 fx.2.1 dL_shared_13 (by decide) ?_
        refine lv_goto (tgt := 18) fx.1 fx.2.1 dL_shared_14 (by decide) ?_
        refine g_last fx hw ho hin dL_shared_18 (fun H locs hw => ?_)
        refine lv_goto (tgt := 30) fx.1 fx.2.1 dL_shared_19 (by decide) ?_
        refine lv_iconst (v := 0) fx.1 fx.2.1 dL_shared_30 (by decide) ?_
        exact g_iret fx hw hr dL_shared_31
    | inl E =>
      refine g_callVC (κ := 10) (As := [.int x1, .int x2, .int x3]) (rest := [.int 0, .ref o]) fx hw (c_X10_shared l X τ n hS x0 x1 x2 x3 G h0 hf) lv_RL_86 rfl rfl h0 rfl hl.1 rfl ⟨Nat.le_of_ble_eq_true rfl, Nat.le_of_ble_eq_true rfl⟩ (Nat.le_of_ble_eq_true rfl) ⟨Nat.le_of_ble_eq_true rfl, Nat.le_of_ble_eq_true rfl⟩ dL_shared_7 (fun u9 H locs hv => by have hv : (Sum.inl E : String ⊕ Option Value) = Sum.inr u9 := hv; cases hv) (fun E9 q9 ce H locs hE hw hce hcv hcl => ?_)
      have hE : (Sum.inl E : String ⊕ Option Value) = Sum.inl E9 := hE
      cases hE
      by_cases e0 : E = x_IOE
      · subst e0
        have h : some ((1 : Int32), G1) = some (r, G') := h
        cases h
        refine g_catch fx hS hN hxt [] ⟨0, 19, 22, 24⟩ [⟨0, 19, 26, 13⟩] rfl (fun z hz => by cases hz) (by decide) (by decide) lcl_24 lca_24 hce hcv hcl ?_
        refine lv_astore (lv' := (5, .ref q9) :: [(0, .ref x0), (1, .int x1), (2, .int x2), (3, .int x3), (4, .ref o)]) fx.1 fx.2.1 dL_shared_22 hl (by decide) rfl (fun ls hl => ?_)
        refine lv_iconst (v := 1) fx.1 fx.2.1 dL_shared_24 (by decide) ?_
        exact g_iret fx hw hr dL_shared_25
      have h : (gCode [x_IAE] E 2).map (fun c => (c, G1)) = some (r, G') := by
        have h1 : (gCode (x_IOE :: [x_IAE]) E 1).map (fun c => (c, G1)) = some (r, G') := h
        rw [gCode, if_neg e0] at h1
        exact h1
      by_cases e1 : E = x_IAE
      · subst e1
        have h : some ((2 : Int32), G1) = some (r, G') := h
        cases h
        refine g_catch fx hS hN hxt [⟨0, 19, 22, 24⟩] ⟨0, 19, 26, 13⟩ [] rfl (by simp only [List.forall_mem_cons]; exact ⟨⟨by decide, x_IOE, lcl_24, by decide +kernel⟩, fun z hz => by cases hz⟩) (by decide) (by decide) lcl_13 lca_13 hce hcv hcl ?_
        refine lv_astore (lv' := (5, .ref q9) :: [(0, .ref x0), (1, .int x1), (2, .int x2), (3, .int x3), (4, .ref o)]) fx.1 fx.2.1 dL_shared_26 hl (by decide) rfl (fun ls hl => ?_)
        refine lv_iconst (v := 2) fx.1 fx.2.1 dL_shared_28 (by decide) ?_
        exact g_iret fx hw hr dL_shared_29
      have h : (gCode [] E 3).map (fun c => (c, G1)) = some (r, G') := by
        have h1 : (gCode (x_IAE :: []) E 2).map (fun c => (c, G1)) = some (r, G') := h
        rw [gCode, if_neg e1] at h1
        exact h1
      cases h
theorem dL_oakum_0 : decode cL_oakum 0 = .ok (.aload 4, 2) := by decide +kernel
theorem dL_oakum_2 : decode cL_oakum 2 = .ok (.iconst 0, 1) := by decide +kernel
theorem dL_oakum_3 : decode cL_oakum 3 = .ok (.aload_n 0, 1) := by decide +kernel
theorem dL_oakum_4 : decode cL_oakum 4 = .ok (.iload_n 1, 1) := by decide +kernel
theorem dL_oakum_5 : decode cL_oakum 5 = .ok (.iload_n 2, 1) := by decide +kernel
theorem dL_oakum_6 : decode cL_oakum 6 = .ok (.iload_n 3, 1) := by decide +kernel
theorem dL_oakum_7 : decode cL_oakum 7 = .ok (.invokevirtual 90, 3) := by decide +kernel
theorem dL_oakum_10 : decode cL_oakum 10 = .ok (.i2l, 1) := by decide +kernel
theorem dL_oakum_11 : decode cL_oakum 11 = .ok (.lastore, 1) := by decide +kernel
theorem dL_oakum_12 : decode cL_oakum 12 = .ok (.goto 7, 3) := by decide +kernel
theorem dL_oakum_15 : decode cL_oakum 15 = .ok (.astore 5, 2) := by decide +kernel
theorem dL_oakum_17 : decode cL_oakum 17 = .ok (.iconst 1, 1) := by decide +kernel
theorem dL_oakum_18 : decode cL_oakum 18 = .ok (.ireturn, 1) := by decide +kernel
theorem dL_oakum_19 : decode cL_oakum 19 = .ok (.iconst 0, 1) := by decide +kernel
theorem dL_oakum_20 : decode cL_oakum 20 = .ok (.ireturn, 1) := by decide +kernel
def rm_L_oakum : Room := { frames := 7, cells := 1, slots := 6, locals := 144 }
def hh_L_oakum : List (Nat × Nat × Nat × Nat) := [(0, 12, 15, 26)]
def f_L_oakum (τ : gτ) (n : Nat) (x0 : Nat) (x1 : Int32) (x2 : Int32) (x3 : Int32) (o : Nat) (G : gG) : Option (Int32 × gG) :=
  gTry (f_X10_oakum τ n x0 x1 x2 x3 G) [x_NSE] fun v G => gchk (gIn 0 (gn τ o)) <| some (0, gsl G o 0 v.toInt64)
theorem lv_RL_90 : gLv RL 90 RX10 yX10_oakum cX10_oakum 5 (some .int) 3 := gLv_of (wA_t (wt6 (List.mem_of_getElem? (i := 91) (by decide +kernel))) (by decide +kernel)) (wA_t (wt6 (List.mem_of_getElem? (i := 92) (by decide +kernel))) (by decide +kernel)) (wA_t (wt6 (List.mem_of_getElem? (i := 93) (by decide +kernel))) (by decide +kernel)) (wA_t (wt1 (List.mem_of_getElem? (i := 1) (by decide +kernel))) (by decide +kernel)) (wA_t (wt6 (List.mem_of_getElem? (i := 94) (by decide +kernel))) (by decide +kernel)) ⟨rfl, by decide +kernel, by decide +kernel, by decide +kernel⟩
set_option maxHeartbeats 4000000 in
set_option maxRecDepth 100000 in
theorem c_L_oakum (l : Launch) (X : gX) (τ : gτ) (n : Nat) (hS : gS0 l X) (hN : gS1 X) (x0 : Nat) (x1 : Int32) (x2 : Int32) (x3 : Int32) (o : Nat) (G : gG) (h0 : gK τ x0 10) (ho : gK τ o 18) {r : Int32} {G' : gG} (h : f_L_oakum τ n x0 x1 x2 x3 o G = some (r, G')) : gMW l X τ yL_oakum cL_oakum 6 (some .int) hh_L_oakum rm_L_oakum [.ref x0, .int x1, .int x2, .int x3, .ref o] G (some (.int r)) G' := by
  refine g_bodyW (by decide +kernel) (Nat.le_of_ble_eq_true rfl) ?_
  intro p e s m args below meth c ls fx hr hxt hw hl
  have fx : gFx X p s m args meth c cL_oakum 6 RL := fx
  have hl : lv_has ls 6 [(0, .ref x0), (1, .int x1), (2, .int x2), (3, .int x3), (4, .ref o)] := hl
  show W p l e rm_L_oakum s m args below meth c s.heap [] 0 0 (MQ below (gQ X τ (some (.int r)) G') args s rm_L_oakum.cells rm_L_oakum.slots (gFree X)) _
  unfold f_L_oakum gTry at h
  refine lv_aload fx.1 fx.2.1 dL_oakum_0 (lv_at hl 4 rfl) ?_
  refine lv_iconst (v := 0) fx.1 fx.2.1 dL_oakum_2 (by decide) ?_
  refine lv_aload_n fx.1 fx.2.1 dL_oakum_3 rfl (lv_at hl 0 rfl) ?_
  refine lv_iload_n fx.1 fx.2.1 dL_oakum_4 rfl (lv_at hl 1 rfl) ?_
  refine lv_iload_n fx.1 fx.2.1 dL_oakum_5 rfl (lv_at hl 2 rfl) ?_
  refine lv_iload_n fx.1 fx.2.1 dL_oakum_6 rfl (lv_at hl 3 rfl) ?_
  cases hf : f_X10_oakum τ n x0 x1 x2 x3 G with
  | none => rw [hf] at h; cases h
  | some q =>
    obtain ⟨ov, G1⟩ := q
    rw [hf] at h
    cases ov with
    | inr v =>
      have hok : gOk (ρ := Int32 × gG) (gchk (gIn 0 (gn τ o)) (some (0, gsl G1 o 0 v.toInt64))) (fun q => q = (r, G')) := ⟨_, h, rfl⟩
      obtain ⟨hin, hok⟩ := gOk_chk hok
      refine g_callVC (κ := 10) (As := [.int x1, .int x2, .int x3]) (rest := [.int 0, .ref o]) fx hw (c_X10_oakum l X τ n hS x0 x1 x2 x3 G h0 hf) lv_RL_90 rfl rfl h0 rfl hl.1 rfl ⟨Nat.le_of_ble_eq_true rfl, Nat.le_of_ble_eq_true rfl⟩ (Nat.le_of_ble_eq_true rfl) ⟨Nat.le_of_ble_eq_true rfl, Nat.le_of_ble_eq_true rfl⟩ dL_oakum_7 (fun u9 H locs hv hw => ?_) (fun E9 q9 ce H locs hE => by have hE : (Sum.inr (some (.int v)) : String ⊕ Option Value) = Sum.inl E9 := hE; cases hE)
      have hv : (Sum.inr (some (.int v)) : String ⊕ Option Value) = Sum.inr u9 := hv
      cases hv
      cases gOk_some hok
      refine lv_i2l (v := v.toInt64) fx.1 fx.2.1 dL_oakum_10 rfl ?_
      refine g_last fx hw ho hin dL_oakum_11 (fun H locs hw => ?_)
      refine lv_goto (tgt := 19) fx.1 fx.2.1 dL_oakum_12 (by decide) ?_
      refine lv_iconst (v := 0) fx.1 fx.2.1 dL_oakum_19 (by decide) ?_
      exact g_iret fx hw hr dL_oakum_20
    | inl E =>
      refine g_callVC (κ := 10) (As := [.int x1, .int x2, .int x3]) (rest := [.int 0, .ref o]) fx hw (c_X10_oakum l X τ n hS x0 x1 x2 x3 G h0 hf) lv_RL_90 rfl rfl h0 rfl hl.1 rfl ⟨Nat.le_of_ble_eq_true rfl, Nat.le_of_ble_eq_true rfl⟩ (Nat.le_of_ble_eq_true rfl) ⟨Nat.le_of_ble_eq_true rfl, Nat.le_of_ble_eq_true rfl⟩ dL_oakum_7 (fun u9 H locs hv => by have hv : (Sum.inl E : String ⊕ Option Value) = Sum.inr u9 := hv; cases hv) (fun E9 q9 ce H locs hE hw hce hcv hcl => ?_)
      have hE : (Sum.inl E : String ⊕ Option Value) = Sum.inl E9 := hE
      cases hE
      by_cases e0 : E = x_NSE
      · subst e0
        have h : some ((1 : Int32), G1) = some (r, G') := h
        cases h
        refine g_catch fx hS hN hxt [] ⟨0, 12, 15, 26⟩ [] rfl (fun z hz => by cases hz) (by decide) (by decide) lcl_26 lca_26 hce hcv hcl ?_
        refine lv_astore (lv' := (5, .ref q9) :: [(0, .ref x0), (1, .int x1), (2, .int x2), (3, .int x3), (4, .ref o)]) fx.1 fx.2.1 dL_oakum_15 hl (by decide) rfl (fun ls hl => ?_)
        refine lv_iconst (v := 1) fx.1 fx.2.1 dL_oakum_17 (by decide) ?_
        exact g_iret fx hw hr dL_oakum_18
      have h : (gCode [] E 2).map (fun c => (c, G1)) = some (r, G') := by
        have h1 : (gCode (x_NSE :: []) E 1).map (fun c => (c, G1)) = some (r, G') := h
        rw [gCode, if_neg e0] at h1
        exact h1
      cases h
theorem dL_holds_0 : decode cL_holds 0 = .ok (.aload_n 3, 1) := by decide +kernel
theorem dL_holds_1 : decode cL_holds 1 = .ok (.iconst 0, 1) := by decide +kernel
theorem dL_holds_2 : decode cL_holds 2 = .ok (.aload_n 0, 1) := by decide +kernel
theorem dL_holds_3 : decode cL_holds 3 = .ok (.iload_n 1, 1) := by decide +kernel
theorem dL_holds_4 : decode cL_holds 4 = .ok (.iload_n 2, 1) := by decide +kernel
theorem dL_holds_5 : decode cL_holds 5 = .ok (.invokevirtual 93, 3) := by decide +kernel
theorem dL_holds_8 : decode cL_holds 8 = .ok (.i2l, 1) := by decide +kernel
theorem dL_holds_9 : decode cL_holds 9 = .ok (.lastore, 1) := by decide +kernel
theorem dL_holds_10 : decode cL_holds 10 = .ok (.goto 7, 3) := by decide +kernel
theorem dL_holds_13 : decode cL_holds 13 = .ok (.astore 4, 2) := by decide +kernel
theorem dL_holds_15 : decode cL_holds 15 = .ok (.iconst 1, 1) := by decide +kernel
theorem dL_holds_16 : decode cL_holds 16 = .ok (.ireturn, 1) := by decide +kernel
theorem dL_holds_17 : decode cL_holds 17 = .ok (.iconst 0, 1) := by decide +kernel
theorem dL_holds_18 : decode cL_holds 18 = .ok (.ireturn, 1) := by decide +kernel
def rm_L_holds : Room := { frames := 8, cells := 1, slots := 6, locals := 167 }
def hh_L_holds : List (Nat × Nat × Nat × Nat) := [(0, 10, 13, 24)]
def f_L_holds (τ : gτ) (n : Nat) (x0 : Nat) (x1 : Int32) (x2 : Int32) (o : Nat) (G : gG) : Option (Int32 × gG) :=
  gTry (f_X10_holds τ n x0 x1 x2 G) [x_IOE] fun v G => gchk (gIn 0 (gn τ o)) <| some (0, gsl G o 0 v.toInt64)
theorem lv_RL_93 : gLv RL 93 RX10 yX10_holds cX10_holds 5 (some .int) 2 := gLv_of (wA_t (wt6 (List.mem_of_getElem? (i := 115) (by decide +kernel))) (by decide +kernel)) (wA_t (wt6 (List.mem_of_getElem? (i := 116) (by decide +kernel))) (by decide +kernel)) (wA_t (wt6 (List.mem_of_getElem? (i := 117) (by decide +kernel))) (by decide +kernel)) (wA_t (wt1 (List.mem_of_getElem? (i := 1) (by decide +kernel))) (by decide +kernel)) (wA_t (wt6 (List.mem_of_getElem? (i := 118) (by decide +kernel))) (by decide +kernel)) ⟨rfl, by decide +kernel, by decide +kernel, by decide +kernel⟩
set_option maxHeartbeats 4000000 in
set_option maxRecDepth 100000 in
theorem c_L_holds (l : Launch) (X : gX) (τ : gτ) (n : Nat) (hS : gS0 l X) (hN : gS1 X) (x0 : Nat) (x1 : Int32) (x2 : Int32) (o : Nat) (G : gG) (h0 : gK τ x0 10) (ho : gK τ o 18) {r : Int32} {G' : gG} (h : f_L_holds τ n x0 x1 x2 o G = some (r, G')) : gMW l X τ yL_holds cL_holds 5 (some .int) hh_L_holds rm_L_holds [.ref x0, .int x1, .int x2, .ref o] G (some (.int r)) G' := by
  refine g_bodyW (by decide +kernel) (Nat.le_of_ble_eq_true rfl) ?_
  intro p e s m args below meth c ls fx hr hxt hw hl
  have fx : gFx X p s m args meth c cL_holds 5 RL := fx
  have hl : lv_has ls 5 [(0, .ref x0), (1, .int x1), (2, .int x2), (3, .ref o)] := hl
  show W p l e rm_L_holds s m args below meth c s.heap [] 0 0 (MQ below (gQ X τ (some (.int r)) G') args s rm_L_holds.cells rm_L_holds.slots (gFree X)) _
  unfold f_L_holds gTry at h
  refine lv_aload_n fx.1 fx.2.1 dL_holds_0 rfl (lv_at hl 3 rfl) ?_
  refine lv_iconst (v := 0) fx.1 fx.2.1 dL_holds_1 (by decide) ?_
  refine lv_aload_n fx.1 fx.2.1 dL_holds_2 rfl (lv_at hl 0 rfl) ?_
  refine lv_iload_n fx.1 fx.2.1 dL_holds_3 rfl (lv_at hl 1 rfl) ?_
  refine lv_iload_n fx.1 fx.2.1 dL_holds_4 rfl (lv_at hl 2 rfl) ?_
  cases hf : f_X10_holds τ n x0 x1 x2 G with
  | none => rw [hf] at h; cases h
  | some q =>
    obtain ⟨ov, G1⟩ := q
    rw [hf] at h
    cases ov with
    | inr v =>
      have hok : gOk (ρ := Int32 × gG) (gchk (gIn 0 (gn τ o)) (some (0, gsl G1 o 0 v.toInt64))) (fun q => q = (r, G')) := ⟨_, h, rfl⟩
      obtain ⟨hin, hok⟩ := gOk_chk hok
      refine g_callVC (κ := 10) (As := [.int x1, .int x2]) (rest := [.int 0, .ref o]) fx hw (c_X10_holds l X τ n hS x0 x1 x2 G h0 hf) lv_RL_93 rfl rfl h0 rfl hl.1 rfl ⟨Nat.le_of_ble_eq_true rfl, Nat.le_of_ble_eq_true rfl⟩ (Nat.le_of_ble_eq_true rfl) ⟨Nat.le_of_ble_eq_true rfl, Nat.le_of_ble_eq_true rfl⟩ dL_holds_5 (fun u9 H locs hv hw => ?_) (fun E9 q9 ce H locs hE => by have hE : (Sum.inr (some (.int v)) : String ⊕ Option Value) = Sum.inl E9 := hE; cases hE)
      have hv : (Sum.inr (some (.int v)) : String ⊕ Option Value) = Sum.inr u9 := hv
      cases hv
      cases gOk_some hok
      refine lv_i2l (v := v.toInt64) fx.1 fx.2.1 dL_holds_8 rfl ?_
      refine g_last fx hw ho hin dL_holds_9 (fun H locs hw => ?_)
      refine lv_goto (tgt := 17) fx.1 fx.2.1 dL_holds_10 (by decide) ?_
      refine lv_iconst (v := 0) fx.1 fx.2.1 dL_holds_17 (by decide) ?_
      exact g_iret fx hw hr dL_holds_18
    | inl E =>
      refine g_callVC (κ := 10) (As := [.int x1, .int x2]) (rest := [.int 0, .ref o]) fx hw (c_X10_holds l X τ n hS x0 x1 x2 G h0 hf) lv_RL_93 rfl rfl h0 rfl hl.1 rfl ⟨Nat.le_of_ble_eq_true rfl, Nat.le_of_ble_eq_true rfl⟩ (Nat.le_of_ble_eq_true rfl) ⟨Nat.le_of_ble_eq_true rfl, Nat.le_of_ble_eq_true rfl⟩ dL_holds_5 (fun u9 H locs hv => by have hv : (Sum.inl E : String ⊕ Option Value) = Sum.inr u9 := hv; cases hv) (fun E9 q9 ce H locs hE hw hce hcv hcl => ?_)
      have hE : (Sum.inl E : String ⊕ Option Value) = Sum.inl E9 := hE
      cases hE
      by_cases e0 : E = x_IOE
      · subst e0
        have h : some ((1 : Int32), G1) = some (r, G') := h
        cases h
        refine g_catch fx hS hN hxt [] ⟨0, 10, 13, 24⟩ [] rfl (fun z hz => by cases hz) (by decide) (by decide) lcl_24 lca_24 hce hcv hcl ?_
        refine lv_astore (lv' := (4, .ref q9) :: [(0, .ref x0), (1, .int x1), (2, .int x2), (3, .ref o)]) fx.1 fx.2.1 dL_holds_13 hl (by decide) rfl (fun ls hl => ?_)
        refine lv_iconst (v := 1) fx.1 fx.2.1 dL_holds_15 (by decide) ?_
        exact g_iret fx hw hr dL_holds_16
      have h : (gCode [] E 2).map (fun c => (c, G1)) = some (r, G') := by
        have h1 : (gCode (x_IOE :: []) E 1).map (fun c => (c, G1)) = some (r, G') := h
        rw [gCode, if_neg e0] at h1
        exact h1
      cases h
theorem dL_would_0 : decode cL_would 0 = .ok (.aload_n 3, 1) := by decide +kernel
theorem dL_would_1 : decode cL_would 1 = .ok (.iconst 0, 1) := by decide +kernel
theorem dL_would_2 : decode cL_would 2 = .ok (.aload_n 0, 1) := by decide +kernel
theorem dL_would_3 : decode cL_would 3 = .ok (.iload_n 1, 1) := by decide +kernel
theorem dL_would_4 : decode cL_would 4 = .ok (.iload_n 2, 1) := by decide +kernel
theorem dL_would_5 : decode cL_would 5 = .ok (.invokevirtual 96, 3) := by decide +kernel
theorem dL_would_8 : decode cL_would 8 = .ok (.i2l, 1) := by decide +kernel
theorem dL_would_9 : decode cL_would 9 = .ok (.lastore, 1) := by decide +kernel
theorem dL_would_10 : decode cL_would 10 = .ok (.goto 11, 3) := by decide +kernel
theorem dL_would_13 : decode cL_would 13 = .ok (.astore 4, 2) := by decide +kernel
theorem dL_would_15 : decode cL_would 15 = .ok (.iconst 1, 1) := by decide +kernel
theorem dL_would_16 : decode cL_would 16 = .ok (.ireturn, 1) := by decide +kernel
theorem dL_would_17 : decode cL_would 17 = .ok (.astore 4, 2) := by decide +kernel
theorem dL_would_19 : decode cL_would 19 = .ok (.iconst 2, 1) := by decide +kernel
theorem dL_would_20 : decode cL_would 20 = .ok (.ireturn, 1) := by decide +kernel
theorem dL_would_21 : decode cL_would 21 = .ok (.iconst 0, 1) := by decide +kernel
theorem dL_would_22 : decode cL_would 22 = .ok (.ireturn, 1) := by decide +kernel
def rm_L_would : Room := { frames := 8, cells := 2, slots := 12, locals := 163 }
def hh_L_would : List (Nat × Nat × Nat × Nat) := [(0, 10, 13, 24), (0, 10, 17, 26)]
def f_L_would (τ : gτ) (n : Nat) (x0 : Nat) (x1 : Int32) (x2 : Int32) (o : Nat) (G : gG) : Option (Int32 × gG) :=
  gTry (f_X10_would τ n x0 x1 x2 G) [x_IOE, x_NSE] fun v G => gchk (gIn 0 (gn τ o)) <| some (0, gsl G o 0 v.toInt64)
theorem lv_RL_96 : gLv RL 96 RX10 yX10_would cX10_would 3 (some .int) 2 := gLv_of (wA_t (wt6 (List.mem_of_getElem? (i := 128) (by decide +kernel))) (by decide +kernel)) (wA_t (wt6 (List.mem_of_getElem? (i := 129) (by decide +kernel))) (by decide +kernel)) (wA_t (wt6 (List.mem_of_getElem? (i := 130) (by decide +kernel))) (by decide +kernel)) (wA_t (wt1 (List.mem_of_getElem? (i := 1) (by decide +kernel))) (by decide +kernel)) (wA_t (wt6 (List.mem_of_getElem? (i := 131) (by decide +kernel))) (by decide +kernel)) ⟨rfl, by decide +kernel, by decide +kernel, by decide +kernel⟩
set_option maxHeartbeats 4000000 in
set_option maxRecDepth 100000 in
theorem c_L_would (l : Launch) (X : gX) (τ : gτ) (n : Nat) (hS : gS0 l X) (hN : gS1 X) (x0 : Nat) (x1 : Int32) (x2 : Int32) (o : Nat) (G : gG) (h0 : gK τ x0 10) (ho : gK τ o 18) {r : Int32} {G' : gG} (h : f_L_would τ n x0 x1 x2 o G = some (r, G')) : gMW l X τ yL_would cL_would 5 (some .int) hh_L_would rm_L_would [.ref x0, .int x1, .int x2, .ref o] G (some (.int r)) G' := by
  refine g_bodyW (by decide +kernel) (Nat.le_of_ble_eq_true rfl) ?_
  intro p e s m args below meth c ls fx hr hxt hw hl
  have fx : gFx X p s m args meth c cL_would 5 RL := fx
  have hl : lv_has ls 5 [(0, .ref x0), (1, .int x1), (2, .int x2), (3, .ref o)] := hl
  show W p l e rm_L_would s m args below meth c s.heap [] 0 0 (MQ below (gQ X τ (some (.int r)) G') args s rm_L_would.cells rm_L_would.slots (gFree X)) _
  unfold f_L_would gTry at h
  refine lv_aload_n fx.1 fx.2.1 dL_would_0 rfl (lv_at hl 3 rfl) ?_
  refine lv_iconst (v := 0) fx.1 fx.2.1 dL_would_1 (by decide) ?_
  refine lv_aload_n fx.1 fx.2.1 dL_would_2 rfl (lv_at hl 0 rfl) ?_
  refine lv_iload_n fx.1 fx.2.1 dL_would_3 rfl (lv_at hl 1 rfl) ?_
  refine lv_iload_n fx.1 fx.2.1 dL_would_4 rfl (lv_at hl 2 rfl) ?_
  cases hf : f_X10_would τ n x0 x1 x2 G with
  | none => rw [hf] at h; cases h
  | some q =>
    obtain ⟨ov, G1⟩ := q
    rw [hf] at h
    cases ov with
    | inr v =>
      have hok : gOk (ρ := Int32 × gG) (gchk (gIn 0 (gn τ o)) (some (0, gsl G1 o 0 v.toInt64))) (fun q => q = (r, G')) := ⟨_, h, rfl⟩
      obtain ⟨hin, hok⟩ := gOk_chk hok
      refine g_callVC (κ := 10) (As := [.int x1, .int x2]) (rest := [.int 0, .ref o]) fx hw (c_X10_would l X τ n hS x0 x1 x2 G h0 hf) lv_RL_96 rfl rfl h0 rfl hl.1 rfl ⟨Nat.le_of_ble_eq_true rfl, Nat.le_of_ble_eq_true rfl⟩ (Nat.le_of_ble_eq_true rfl) ⟨Nat.le_of_ble_eq_true rfl, Nat.le_of_ble_eq_true rfl⟩ dL_would_5 (fun u9 H locs hv hw => ?_) (fun E9 q9 ce H locs hE => by have hE : (Sum.inr (some (.int v)) : String ⊕ Option Value) = Sum.inl E9 := hE; cases hE)
      have hv : (Sum.inr (some (.int v)) : String ⊕ Option Value) = Sum.inr u9 := hv
      cases hv
      cases gOk_some hok
      refine lv_i2l (v := v.toInt64) fx.1 fx.2.1 dL_would_8 rfl ?_
      refine g_last fx hw ho hin dL_would_9 (fun H locs hw => ?_)
      refine lv_goto (tgt := 21) fx.1 fx.2.1 dL_would_10 (by decide) ?_
      refine lv_iconst (v := 0) fx.1 fx.2.1 dL_would_21 (by decide) ?_
      exact g_iret fx hw hr dL_would_22
    | inl E =>
      refine g_callVC (κ := 10) (As := [.int x1, .int x2]) (rest := [.int 0, .ref o]) fx hw (c_X10_would l X τ n hS x0 x1 x2 G h0 hf) lv_RL_96 rfl rfl h0 rfl hl.1 rfl ⟨Nat.le_of_ble_eq_true rfl, Nat.le_of_ble_eq_true rfl⟩ (Nat.le_of_ble_eq_true rfl) ⟨Nat.le_of_ble_eq_true rfl, Nat.le_of_ble_eq_true rfl⟩ dL_would_5 (fun u9 H locs hv => by have hv : (Sum.inl E : String ⊕ Option Value) = Sum.inr u9 := hv; cases hv) (fun E9 q9 ce H locs hE hw hce hcv hcl => ?_)
      have hE : (Sum.inl E : String ⊕ Option Value) = Sum.inl E9 := hE
      cases hE
      by_cases e0 : E = x_IOE
      · subst e0
        have h : some ((1 : Int32), G1) = some (r, G') := h
        cases h
        refine g_catch fx hS hN hxt [] ⟨0, 10, 13, 24⟩ [⟨0, 10, 17, 26⟩] rfl (fun z hz => by cases hz) (by decide) (by decide) lcl_24 lca_24 hce hcv hcl ?_
        refine lv_astore (lv' := (4, .ref q9) :: [(0, .ref x0), (1, .int x1), (2, .int x2), (3, .ref o)]) fx.1 fx.2.1 dL_would_13 hl (by decide) rfl (fun ls hl => ?_)
        refine lv_iconst (v := 1) fx.1 fx.2.1 dL_would_15 (by decide) ?_
        exact g_iret fx hw hr dL_would_16
      have h : (gCode [x_NSE] E 2).map (fun c => (c, G1)) = some (r, G') := by
        have h1 : (gCode (x_IOE :: [x_NSE]) E 1).map (fun c => (c, G1)) = some (r, G') := h
        rw [gCode, if_neg e0] at h1
        exact h1
      by_cases e1 : E = x_NSE
      · subst e1
        have h : some ((2 : Int32), G1) = some (r, G') := h
        cases h
        refine g_catch fx hS hN hxt [⟨0, 10, 13, 24⟩] ⟨0, 10, 17, 26⟩ [] rfl (by simp only [List.forall_mem_cons]; exact ⟨⟨by decide, x_IOE, lcl_24, by decide +kernel⟩, fun z hz => by cases hz⟩) (by decide) (by decide) lcl_26 lca_26 hce hcv hcl ?_
        refine lv_astore (lv' := (4, .ref q9) :: [(0, .ref x0), (1, .int x1), (2, .int x2), (3, .ref o)]) fx.1 fx.2.1 dL_would_17 hl (by decide) rfl (fun ls hl => ?_)
        refine lv_iconst (v := 2) fx.1 fx.2.1 dL_would_19 (by decide) ?_
        exact g_iret fx hw hr dL_would_20
      have h : (gCode [] E 3).map (fun c => (c, G1)) = some (r, G') := by
        have h1 : (gCode (x_NSE :: []) E 2).map (fun c => (c, G1)) = some (r, G') := h
        rw [gCode, if_neg e1] at h1
        exact h1
      cases h
theorem dL_buys_0 : decode cL_buys 0 = .ok (.aload_n 2, 1) := by decide +kernel
theorem dL_buys_1 : decode cL_buys 1 = .ok (.iconst 0, 1) := by decide +kernel
theorem dL_buys_2 : decode cL_buys 2 = .ok (.aload_n 0, 1) := by decide +kernel
theorem dL_buys_3 : decode cL_buys 3 = .ok (.iload_n 1, 1) := by decide +kernel
theorem dL_buys_4 : decode cL_buys 4 = .ok (.invokevirtual 99, 3) := by decide +kernel
theorem dL_buys_7 : decode cL_buys 7 = .ok (.i2l, 1) := by decide +kernel
theorem dL_buys_8 : decode cL_buys 8 = .ok (.lastore, 1) := by decide +kernel
theorem dL_buys_9 : decode cL_buys 9 = .ok (.goto 6, 3) := by decide +kernel
theorem dL_buys_12 : decode cL_buys 12 = .ok (.astore_n 3, 1) := by decide +kernel
theorem dL_buys_13 : decode cL_buys 13 = .ok (.iconst 1, 1) := by decide +kernel
theorem dL_buys_14 : decode cL_buys 14 = .ok (.ireturn, 1) := by decide +kernel
theorem dL_buys_15 : decode cL_buys 15 = .ok (.iconst 0, 1) := by decide +kernel
theorem dL_buys_16 : decode cL_buys 16 = .ok (.ireturn, 1) := by decide +kernel
def rm_L_buys : Room := { frames := 8, cells := 1, slots := 6, locals := 166 }
def hh_L_buys : List (Nat × Nat × Nat × Nat) := [(0, 9, 12, 13)]
def f_L_buys (τ : gτ) (n : Nat) (x0 : Nat) (x1 : Int32) (o : Nat) (G : gG) : Option (Int32 × gG) :=
  gTry (f_X10_buys τ n x0 x1 G) [x_IAE] fun v G => gchk (gIn 0 (gn τ o)) <| some (0, gsl G o 0 v.toInt64)
theorem lv_RL_99 : gLv RL 99 RX10 yX10_buys cX10_buys 5 (some .int) 1 := gLv_of (wA_t (wt6 (List.mem_of_getElem? (i := 137) (by decide +kernel))) (by decide +kernel)) (wA_t (wt6 (List.mem_of_getElem? (i := 138) (by decide +kernel))) (by decide +kernel)) (wA_t (wt6 (List.mem_of_getElem? (i := 139) (by decide +kernel))) (by decide +kernel)) (wA_t (wt1 (List.mem_of_getElem? (i := 1) (by decide +kernel))) (by decide +kernel)) (wA_t (wt6 (List.mem_of_getElem? (i := 140) (by decide +kernel))) (by decide +kernel)) ⟨rfl, by decide +kernel, by decide +kernel, by decide +kernel⟩
set_option maxHeartbeats 4000000 in
set_option maxRecDepth 100000 in
theorem c_L_buys (l : Launch) (X : gX) (τ : gτ) (n : Nat) (hS : gS0 l X) (hN : gS1 X) (x0 : Nat) (x1 : Int32) (o : Nat) (G : gG) (h0 : gK τ x0 10) (ho : gK τ o 18) {r : Int32} {G' : gG} (h : f_L_buys τ n x0 x1 o G = some (r, G')) : gMW l X τ yL_buys cL_buys 4 (some .int) hh_L_buys rm_L_buys [.ref x0, .int x1, .ref o] G (some (.int r)) G' := by
  refine g_bodyW (by decide +kernel) (Nat.le_of_ble_eq_true rfl) ?_
  intro p e s m args below meth c ls fx hr hxt hw hl
  have fx : gFx X p s m args meth c cL_buys 4 RL := fx
  have hl : lv_has ls 4 [(0, .ref x0), (1, .int x1), (2, .ref o)] := hl
  show W p l e rm_L_buys s m args below meth c s.heap [] 0 0 (MQ below (gQ X τ (some (.int r)) G') args s rm_L_buys.cells rm_L_buys.slots (gFree X)) _
  unfold f_L_buys gTry at h
  refine lv_aload_n fx.1 fx.2.1 dL_buys_0 rfl (lv_at hl 2 rfl) ?_
  refine lv_iconst (v := 0) fx.1 fx.2.1 dL_buys_1 (by decide) ?_
  refine lv_aload_n fx.1 fx.2.1 dL_buys_2 rfl (lv_at hl 0 rfl) ?_
  refine lv_iload_n fx.1 fx.2.1 dL_buys_3 rfl (lv_at hl 1 rfl) ?_
  cases hf : f_X10_buys τ n x0 x1 G with
  | none => rw [hf] at h; cases h
  | some q =>
    obtain ⟨ov, G1⟩ := q
    rw [hf] at h
    cases ov with
    | inr v =>
      have hok : gOk (ρ := Int32 × gG) (gchk (gIn 0 (gn τ o)) (some (0, gsl G1 o 0 v.toInt64))) (fun q => q = (r, G')) := ⟨_, h, rfl⟩
      obtain ⟨hin, hok⟩ := gOk_chk hok
      refine g_callVC (κ := 10) (As := [.int x1]) (rest := [.int 0, .ref o]) fx hw (c_X10_buys l X τ n hS x0 x1 G h0 hf) lv_RL_99 rfl rfl h0 rfl hl.1 rfl ⟨Nat.le_of_ble_eq_true rfl, Nat.le_of_ble_eq_true rfl⟩ (Nat.le_of_ble_eq_true rfl) ⟨Nat.le_of_ble_eq_true rfl, Nat.le_of_ble_eq_true rfl⟩ dL_buys_4 (fun u9 H locs hv hw => ?_) (fun E9 q9 ce H locs hE => by have hE : (Sum.inr (some (.int v)) : String ⊕ Option Value) = Sum.inl E9 := hE; cases hE)
      have hv : (Sum.inr (some (.int v)) : String ⊕ Option Value) = Sum.inr u9 := hv
      cases hv
      cases gOk_some hok
      refine lv_i2l (v := v.toInt64) fx.1 fx.2.1 dL_buys_7 rfl ?_
      refine g_last fx hw ho hin dL_buys_8 (fun H locs hw => ?_)
      refine lv_goto (tgt := 15) fx.1 fx.2.1 dL_buys_9 (by decide) ?_
      refine lv_iconst (v := 0) fx.1 fx.2.1 dL_buys_15 (by decide) ?_
      exact g_iret fx hw hr dL_buys_16
    | inl E =>
      refine g_callVC (κ := 10) (As := [.int x1]) (rest := [.int 0, .ref o]) fx hw (c_X10_buys l X τ n hS x0 x1 G h0 hf) lv_RL_99 rfl rfl h0 rfl hl.1 rfl ⟨Nat.le_of_ble_eq_true rfl, Nat.le_of_ble_eq_true rfl⟩ (Nat.le_of_ble_eq_true rfl) ⟨Nat.le_of_ble_eq_true rfl, Nat.le_of_ble_eq_true rfl⟩ dL_buys_4 (fun u9 H locs hv => by have hv : (Sum.inl E : String ⊕ Option Value) = Sum.inr u9 := hv; cases hv) (fun E9 q9 ce H locs hE hw hce hcv hcl => ?_)
      have hE : (Sum.inl E : String ⊕ Option Value) = Sum.inl E9 := hE
      cases hE
      by_cases e0 : E = x_IAE
      · subst e0
        have h : some ((1 : Int32), G1) = some (r, G') := h
        cases h
        refine g_catch fx hS hN hxt [] ⟨0, 9, 12, 13⟩ [] rfl (fun z hz => by cases hz) (by decide) (by decide) lcl_13 lca_13 hce hcv hcl ?_
        refine lv_astore_n (lv' := (3, .ref q9) :: [(0, .ref x0), (1, .int x1), (2, .ref o)]) fx.1 fx.2.1 dL_buys_12 rfl hl (by decide) rfl (fun ls hl => ?_)
        refine lv_iconst (v := 1) fx.1 fx.2.1 dL_buys_13 (by decide) ?_
        exact g_iret fx hw hr dL_buys_14
      have h : (gCode [] E 2).map (fun c => (c, G1)) = some (r, G') := by
        have h1 : (gCode (x_IAE :: []) E 1).map (fun c => (c, G1)) = some (r, G') := h
        rw [gCode, if_neg e0] at h1
        exact h1
      cases h
theorem dL_lasts_0 : decode cL_lasts 0 = .ok (.aload_n 2, 1) := by decide +kernel
theorem dL_lasts_1 : decode cL_lasts 1 = .ok (.iconst 0, 1) := by decide +kernel
theorem dL_lasts_2 : decode cL_lasts 2 = .ok (.aload_n 0, 1) := by decide +kernel
theorem dL_lasts_3 : decode cL_lasts 3 = .ok (.iload_n 1, 1) := by decide +kernel
theorem dL_lasts_4 : decode cL_lasts 4 = .ok (.invokevirtual 102, 3) := by decide +kernel
theorem dL_lasts_7 : decode cL_lasts 7 = .ok (.i2l, 1) := by decide +kernel
theorem dL_lasts_8 : decode cL_lasts 8 = .ok (.lastore, 1) := by decide +kernel
theorem dL_lasts_9 : decode cL_lasts 9 = .ok (.goto 6, 3) := by decide +kernel
theorem dL_lasts_12 : decode cL_lasts 12 = .ok (.astore_n 3, 1) := by decide +kernel
theorem dL_lasts_13 : decode cL_lasts 13 = .ok (.iconst 1, 1) := by decide +kernel
theorem dL_lasts_14 : decode cL_lasts 14 = .ok (.ireturn, 1) := by decide +kernel
theorem dL_lasts_15 : decode cL_lasts 15 = .ok (.iconst 0, 1) := by decide +kernel
theorem dL_lasts_16 : decode cL_lasts 16 = .ok (.ireturn, 1) := by decide +kernel
def rm_L_lasts : Room := { frames := 8, cells := 1, slots := 6, locals := 165 }
def hh_L_lasts : List (Nat × Nat × Nat × Nat) := [(0, 9, 12, 13)]
def f_L_lasts (τ : gτ) (n : Nat) (x0 : Nat) (x1 : Int32) (o : Nat) (G : gG) : Option (Int32 × gG) :=
  gTry (f_X10_lasts τ n x0 x1 G) [x_IAE] fun v G => gchk (gIn 0 (gn τ o)) <| some (0, gsl G o 0 v.toInt64)
theorem lv_RL_102 : gLv RL 102 RX10 yX10_lasts cX10_lasts 4 (some .int) 1 := gLv_of (wA_t (wt6 (List.mem_of_getElem? (i := 149) (by decide +kernel))) (by decide +kernel)) (wA_t (wt6 (List.mem_of_getElem? (i := 150) (by decide +kernel))) (by decide +kernel)) (wA_t (wt6 (List.mem_of_getElem? (i := 151) (by decide +kernel))) (by decide +kernel)) (wA_t (wt1 (List.mem_of_getElem? (i := 1) (by decide +kernel))) (by decide +kernel)) (wA_t (wt6 (List.mem_of_getElem? (i := 152) (by decide +kernel))) (by decide +kernel)) ⟨rfl, by decide +kernel, by decide +kernel, by decide +kernel⟩
set_option maxHeartbeats 4000000 in
set_option maxRecDepth 100000 in
theorem c_L_lasts (l : Launch) (X : gX) (τ : gτ) (n : Nat) (hS : gS0 l X) (hN : gS1 X) (x0 : Nat) (x1 : Int32) (o : Nat) (G : gG) (h0 : gK τ x0 10) (ho : gK τ o 18) {r : Int32} {G' : gG} (h : f_L_lasts τ n x0 x1 o G = some (r, G')) : gMW l X τ yL_lasts cL_lasts 4 (some .int) hh_L_lasts rm_L_lasts [.ref x0, .int x1, .ref o] G (some (.int r)) G' := by
  refine g_bodyW (by decide +kernel) (Nat.le_of_ble_eq_true rfl) ?_
  intro p e s m args below meth c ls fx hr hxt hw hl
  have fx : gFx X p s m args meth c cL_lasts 4 RL := fx
  have hl : lv_has ls 4 [(0, .ref x0), (1, .int x1), (2, .ref o)] := hl
  show W p l e rm_L_lasts s m args below meth c s.heap [] 0 0 (MQ below (gQ X τ (some (.int r)) G') args s rm_L_lasts.cells rm_L_lasts.slots (gFree X)) _
  unfold f_L_lasts gTry at h
  refine lv_aload_n fx.1 fx.2.1 dL_lasts_0 rfl (lv_at hl 2 rfl) ?_
  refine lv_iconst (v := 0) fx.1 fx.2.1 dL_lasts_1 (by decide) ?_
  refine lv_aload_n fx.1 fx.2.1 dL_lasts_2 rfl (lv_at hl 0 rfl) ?_
  refine lv_iload_n fx.1 fx.2.1 dL_lasts_3 rfl (lv_at hl 1 rfl) ?_
  cases hf : f_X10_lasts τ n x0 x1 G with
  | none => rw [hf] at h; cases h
  | some q =>
    obtain ⟨ov, G1⟩ := q
    rw [hf] at h
    cases ov with
    | inr v =>
      have hok : gOk (ρ := Int32 × gG) (gchk (gIn 0 (gn τ o)) (some (0, gsl G1 o 0 v.toInt64))) (fun q => q = (r, G')) := ⟨_, h, rfl⟩
      obtain ⟨hin, hok⟩ := gOk_chk hok
      refine g_callVC (κ := 10) (As := [.int x1]) (rest := [.int 0, .ref o]) fx hw (c_X10_lasts l X τ n hS x0 x1 G h0 hf) lv_RL_102 rfl rfl h0 rfl hl.1 rfl ⟨Nat.le_of_ble_eq_true rfl, Nat.le_of_ble_eq_true rfl⟩ (Nat.le_of_ble_eq_true rfl) ⟨Nat.le_of_ble_eq_true rfl, Nat.le_of_ble_eq_true rfl⟩ dL_lasts_4 (fun u9 H locs hv hw => ?_) (fun E9 q9 ce H locs hE => by have hE : (Sum.inr (some (.int v)) : String ⊕ Option Value) = Sum.inl E9 := hE; cases hE)
      have hv : (Sum.inr (some (.int v)) : String ⊕ Option Value) = Sum.inr u9 := hv
      cases hv
      cases gOk_some hok
      refine lv_i2l (v := v.toInt64) fx.1 fx.2.1 dL_lasts_7 rfl ?_
      refine g_last fx hw ho hin dL_lasts_8 (fun H locs hw => ?_)
      refine lv_goto (tgt := 15) fx.1 fx.2.1 dL_lasts_9 (by decide) ?_
      refine lv_iconst (v := 0) fx.1 fx.2.1 dL_lasts_15 (by decide) ?_
      exact g_iret fx hw hr dL_lasts_16
    | inl E =>
      refine g_callVC (κ := 10) (As := [.int x1]) (rest := [.int 0, .ref o]) fx hw (c_X10_lasts l X τ n hS x0 x1 G h0 hf) lv_RL_102 rfl rfl h0 rfl hl.1 rfl ⟨Nat.le_of_ble_eq_true rfl, Nat.le_of_ble_eq_true rfl⟩ (Nat.le_of_ble_eq_true rfl) ⟨Nat.le_of_ble_eq_true rfl, Nat.le_of_ble_eq_true rfl⟩ dL_lasts_4 (fun u9 H locs hv => by have hv : (Sum.inl E : String ⊕ Option Value) = Sum.inr u9 := hv; cases hv) (fun E9 q9 ce H locs hE hw hce hcv hcl => ?_)
      have hE : (Sum.inl E : String ⊕ Option Value) = Sum.inl E9 := hE
      cases hE
      by_cases e0 : E = x_IAE
      · subst e0
        have h : some ((1 : Int32), G1) = some (r, G') := h
        cases h
        refine g_catch fx hS hN hxt [] ⟨0, 9, 12, 13⟩ [] rfl (fun z hz => by cases hz) (by decide) (by decide) lcl_13 lca_13 hce hcv hcl ?_
        refine lv_astore_n (lv' := (3, .ref q9) :: [(0, .ref x0), (1, .int x1), (2, .ref o)]) fx.1 fx.2.1 dL_lasts_12 rfl hl (by decide) rfl (fun ls hl => ?_)
        refine lv_iconst (v := 1) fx.1 fx.2.1 dL_lasts_13 (by decide) ?_
        exact g_iret fx hw hr dL_lasts_14
      have h : (gCode [] E 2).map (fun c => (c, G1)) = some (r, G') := by
        have h1 : (gCode (x_IAE :: []) E 1).map (fun c => (c, G1)) = some (r, G') := h
        rw [gCode, if_neg e0] at h1
        exact h1
      cases h
theorem dL_trial_0 : decode cL_trial 0 = .ok (.aload_n 3, 1) := by decide +kernel
theorem dL_trial_1 : decode cL_trial 1 = .ok (.iconst 0, 1) := by decide +kernel
theorem dL_trial_2 : decode cL_trial 2 = .ok (.aload_n 0, 1) := by decide +kernel
theorem dL_trial_3 : decode cL_trial 3 = .ok (.iload_n 1, 1) := by decide +kernel
theorem dL_trial_4 : decode cL_trial 4 = .ok (.iload_n 2, 1) := by decide +kernel
theorem dL_trial_5 : decode cL_trial 5 = .ok (.invokevirtual 105, 3) := by decide +kernel
theorem dL_trial_8 : decode cL_trial 8 = .ok (.i2l, 1) := by decide +kernel
theorem dL_trial_9 : decode cL_trial 9 = .ok (.lastore, 1) := by decide +kernel
theorem dL_trial_10 : decode cL_trial 10 = .ok (.goto 7, 3) := by decide +kernel
theorem dL_trial_13 : decode cL_trial 13 = .ok (.astore 4, 2) := by decide +kernel
theorem dL_trial_15 : decode cL_trial 15 = .ok (.iconst 1, 1) := by decide +kernel
theorem dL_trial_16 : decode cL_trial 16 = .ok (.ireturn, 1) := by decide +kernel
theorem dL_trial_17 : decode cL_trial 17 = .ok (.iconst 0, 1) := by decide +kernel
theorem dL_trial_18 : decode cL_trial 18 = .ok (.ireturn, 1) := by decide +kernel
def rm_L_trial : Room := { frames := 8, cells := 1, slots := 6, locals := 189 }
def hh_L_trial : List (Nat × Nat × Nat × Nat) := [(0, 10, 13, 13)]
def f_L_trial (τ : gτ) (n : Nat) (x0 : Nat) (x1 : Int32) (x2 : Int32) (o : Nat) (G : gG) : Option (Int32 × gG) :=
  gTry (f_X10_trial τ n x0 x1 x2 G) [x_IAE] fun v G => gchk (gIn 0 (gn τ o)) <| some (0, gsl G o 0 v.toInt64)
theorem lv_RL_105 : gLv RL 105 RX10 yX10_trial cX10_trial 3 (some .int) 2 := gLv_of (wA_t (wt6 (List.mem_of_getElem? (i := 160) (by decide +kernel))) (by decide +kernel)) (wA_t (wt6 (List.mem_of_getElem? (i := 161) (by decide +kernel))) (by decide +kernel)) (wA_t (wt6 (List.mem_of_getElem? (i := 162) (by decide +kernel))) (by decide +kernel)) (wA_t (wt1 (List.mem_of_getElem? (i := 1) (by decide +kernel))) (by decide +kernel)) (wA_t (wt6 (List.mem_of_getElem? (i := 163) (by decide +kernel))) (by decide +kernel)) ⟨rfl, by decide +kernel, by decide +kernel, by decide +kernel⟩
set_option maxHeartbeats 4000000 in
set_option maxRecDepth 100000 in
theorem c_L_trial (l : Launch) (X : gX) (τ : gτ) (n : Nat) (hS : gS0 l X) (hN : gS1 X) (x0 : Nat) (x1 : Int32) (x2 : Int32) (o : Nat) (G : gG) (h0 : gK τ x0 10) (ho : gK τ o 18) {r : Int32} {G' : gG} (h : f_L_trial τ n x0 x1 x2 o G = some (r, G')) : gMW l X τ yL_trial cL_trial 5 (some .int) hh_L_trial rm_L_trial [.ref x0, .int x1, .int x2, .ref o] G (some (.int r)) G' := by
  refine g_bodyW (by decide +kernel) (Nat.le_of_ble_eq_true rfl) ?_
  intro p e s m args below meth c ls fx hr hxt hw hl
  have fx : gFx X p s m args meth c cL_trial 5 RL := fx
  have hl : lv_has ls 5 [(0, .ref x0), (1, .int x1), (2, .int x2), (3, .ref o)] := hl
  show W p l e rm_L_trial s m args below meth c s.heap [] 0 0 (MQ below (gQ X τ (some (.int r)) G') args s rm_L_trial.cells rm_L_trial.slots (gFree X)) _
  unfold f_L_trial gTry at h
  refine lv_aload_n fx.1 fx.2.1 dL_trial_0 rfl (lv_at hl 3 rfl) ?_
  refine lv_iconst (v := 0) fx.1 fx.2.1 dL_trial_1 (by decide) ?_
  refine lv_aload_n fx.1 fx.2.1 dL_trial_2 rfl (lv_at hl 0 rfl) ?_
  refine lv_iload_n fx.1 fx.2.1 dL_trial_3 rfl (lv_at hl 1 rfl) ?_
  refine lv_iload_n fx.1 fx.2.1 dL_trial_4 rfl (lv_at hl 2 rfl) ?_
  cases hf : f_X10_trial τ n x0 x1 x2 G with
  | none => rw [hf] at h; cases h
  | some q =>
    obtain ⟨ov, G1⟩ := q
    rw [hf] at h
    cases ov with
    | inr v =>
      have hok : gOk (ρ := Int32 × gG) (gchk (gIn 0 (gn τ o)) (some (0, gsl G1 o 0 v.toInt64))) (fun q => q = (r, G')) := ⟨_, h, rfl⟩
      obtain ⟨hin, hok⟩ := gOk_chk hok
      refine g_callVC (κ := 10) (As := [.int x1, .int x2]) (rest := [.int 0, .ref o]) fx hw (c_X10_trial l X τ n hS x0 x1 x2 G h0 hf) lv_RL_105 rfl rfl h0 rfl hl.1 rfl ⟨Nat.le_of_ble_eq_true rfl, Nat.le_of_ble_eq_true rfl⟩ (Nat.le_of_ble_eq_true rfl) ⟨Nat.le_of_ble_eq_true rfl, Nat.le_of_ble_eq_true rfl⟩ dL_trial_5 (fun u9 H locs hv hw => ?_) (fun E9 q9 ce H locs hE => by have hE : (Sum.inr (some (.int v)) : String ⊕ Option Value) = Sum.inl E9 := hE; cases hE)
      have hv : (Sum.inr (some (.int v)) : String ⊕ Option Value) = Sum.inr u9 := hv
      cases hv
      cases gOk_some hok
      refine lv_i2l (v := v.toInt64) fx.1 fx.2.1 dL_trial_8 rfl ?_
      refine g_last fx hw ho hin dL_trial_9 (fun H locs hw => ?_)
      refine lv_goto (tgt := 17) fx.1 fx.2.1 dL_trial_10 (by decide) ?_
      refine lv_iconst (v := 0) fx.1 fx.2.1 dL_trial_17 (by decide) ?_
      exact g_iret fx hw hr dL_trial_18
    | inl E =>
      refine g_callVC (κ := 10) (As := [.int x1, .int x2]) (rest := [.int 0, .ref o]) fx hw (c_X10_trial l X τ n hS x0 x1 x2 G h0 hf) lv_RL_105 rfl rfl h0 rfl hl.1 rfl ⟨Nat.le_of_ble_eq_true rfl, Nat.le_of_ble_eq_true rfl⟩ (Nat.le_of_ble_eq_true rfl) ⟨Nat.le_of_ble_eq_true rfl, Nat.le_of_ble_eq_true rfl⟩ dL_trial_5 (fun u9 H locs hv => by have hv : (Sum.inl E : String ⊕ Option Value) = Sum.inr u9 := hv; cases hv) (fun E9 q9 ce H locs hE hw hce hcv hcl => ?_)
      have hE : (Sum.inl E : String ⊕ Option Value) = Sum.inl E9 := hE
      cases hE
      by_cases e0 : E = x_IAE
      · subst e0
        have h : some ((1 : Int32), G1) = some (r, G') := h
        cases h
        refine g_catch fx hS hN hxt [] ⟨0, 10, 13, 13⟩ [] rfl (fun z hz => by cases hz) (by decide) (by decide) lcl_13 lca_13 hce hcv hcl ?_
        refine lv_astore (lv' := (4, .ref q9) :: [(0, .ref x0), (1, .int x1), (2, .int x2), (3, .ref o)]) fx.1 fx.2.1 dL_trial_13 hl (by decide) rfl (fun ls hl => ?_)
        refine lv_iconst (v := 1) fx.1 fx.2.1 dL_trial_15 (by decide) ?_
        exact g_iret fx hw hr dL_trial_16
      have h : (gCode [] E 2).map (fun c => (c, G1)) = some (r, G') := by
        have h1 : (gCode (x_IAE :: []) E 1).map (fun c => (c, G1)) = some (r, G') := h
        rw [gCode, if_neg e0] at h1
        exact h1
      cases h
theorem dL_span_0 : decode cL_span 0 = .ok (.aload_n 3, 1) := by decide +kernel
theorem dL_span_1 : decode cL_span 1 = .ok (.iconst 0, 1) := by decide +kernel
theorem dL_span_2 : decode cL_span 2 = .ok (.aload_n 0, 1) := by decide +kernel
theorem dL_span_3 : decode cL_span 3 = .ok (.iload_n 1, 1) := by decide +kernel
theorem dL_span_4 : decode cL_span 4 = .ok (.iload_n 2, 1) := by decide +kernel
theorem dL_span_5 : decode cL_span 5 = .ok (.invokevirtual 108, 3) := by decide +kernel
theorem dL_span_8 : decode cL_span 8 = .ok (.i2l, 1) := by decide +kernel
theorem dL_span_9 : decode cL_span 9 = .ok (.lastore, 1) := by decide +kernel
theorem dL_span_10 : decode cL_span 10 = .ok (.goto 7, 3) := by decide +kernel
theorem dL_span_13 : decode cL_span 13 = .ok (.astore 4, 2) := by decide +kernel
theorem dL_span_15 : decode cL_span 15 = .ok (.iconst 1, 1) := by decide +kernel
theorem dL_span_16 : decode cL_span 16 = .ok (.ireturn, 1) := by decide +kernel
theorem dL_span_17 : decode cL_span 17 = .ok (.iconst 0, 1) := by decide +kernel
theorem dL_span_18 : decode cL_span 18 = .ok (.ireturn, 1) := by decide +kernel
def rm_L_span : Room := { frames := 8, cells := 1, slots := 6, locals := 193 }
def hh_L_span : List (Nat × Nat × Nat × Nat) := [(0, 10, 13, 13)]
def f_L_span (τ : gτ) (n : Nat) (x0 : Nat) (x1 : Int32) (x2 : Int32) (o : Nat) (G : gG) : Option (Int32 × gG) :=
  gTry (f_X10_span τ n x0 x1 x2 G) [x_IAE] fun v G => gchk (gIn 0 (gn τ o)) <| some (0, gsl G o 0 v.toInt64)
theorem lv_RL_108 : gLv RL 108 RX10 yX10_span cX10_span 7 (some .int) 2 := gLv_of (wA_t (wt6 (List.mem_of_getElem? (i := 167) (by decide +kernel))) (by decide +kernel)) (wA_t (wt6 (List.mem_of_getElem? (i := 168) (by decide +kernel))) (by decide +kernel)) (wA_t (wt6 (List.mem_of_getElem? (i := 169) (by decide +kernel))) (by decide +kernel)) (wA_t (wt1 (List.mem_of_getElem? (i := 1) (by decide +kernel))) (by decide +kernel)) (wA_t (wt6 (List.mem_of_getElem? (i := 170) (by decide +kernel))) (by decide +kernel)) ⟨rfl, by decide +kernel, by decide +kernel, by decide +kernel⟩
set_option maxHeartbeats 4000000 in
set_option maxRecDepth 100000 in
theorem c_L_span (l : Launch) (X : gX) (τ : gτ) (n : Nat) (hS : gS0 l X) (hN : gS1 X) (x0 : Nat) (x1 : Int32) (x2 : Int32) (o : Nat) (G : gG) (h0 : gK τ x0 10) (ho : gK τ o 18) {r : Int32} {G' : gG} (h : f_L_span τ n x0 x1 x2 o G = some (r, G')) : gMW l X τ yL_span cL_span 5 (some .int) hh_L_span rm_L_span [.ref x0, .int x1, .int x2, .ref o] G (some (.int r)) G' := by
  refine g_bodyW (by decide +kernel) (Nat.le_of_ble_eq_true rfl) ?_
  intro p e s m args below meth c ls fx hr hxt hw hl
  have fx : gFx X p s m args meth c cL_span 5 RL := fx
  have hl : lv_has ls 5 [(0, .ref x0), (1, .int x1), (2, .int x2), (3, .ref o)] := hl
  show W p l e rm_L_span s m args below meth c s.heap [] 0 0 (MQ below (gQ X τ (some (.int r)) G') args s rm_L_span.cells rm_L_span.slots (gFree X)) _
  unfold f_L_span gTry at h
  refine lv_aload_n fx.1 fx.2.1 dL_span_0 rfl (lv_at hl 3 rfl) ?_
  refine lv_iconst (v := 0) fx.1 fx.2.1 dL_span_1 (by decide) ?_
  refine lv_aload_n fx.1 fx.2.1 dL_span_2 rfl (lv_at hl 0 rfl) ?_
  refine lv_iload_n fx.1 fx.2.1 dL_span_3 rfl (lv_at hl 1 rfl) ?_
  refine lv_iload_n fx.1 fx.2.1 dL_span_4 rfl (lv_at hl 2 rfl) ?_
  cases hf : f_X10_span τ n x0 x1 x2 G with
  | none => rw [hf] at h; cases h
  | some q =>
    obtain ⟨ov, G1⟩ := q
    rw [hf] at h
    cases ov with
    | inr v =>
      have hok : gOk (ρ := Int32 × gG) (gchk (gIn 0 (gn τ o)) (some (0, gsl G1 o 0 v.toInt64))) (fun q => q = (r, G')) := ⟨_, h, rfl⟩
      obtain ⟨hin, hok⟩ := gOk_chk hok
      refine g_callVC (κ := 10) (As := [.int x1, .int x2]) (rest := [.int 0, .ref o]) fx hw (c_X10_span l X τ n hS x0 x1 x2 G h0 hf) lv_RL_108 rfl rfl h0 rfl hl.1 rfl ⟨Nat.le_of_ble_eq_true rfl, Nat.le_of_ble_eq_true rfl⟩ (Nat.le_of_ble_eq_true rfl) ⟨Nat.le_of_ble_eq_true rfl, Nat.le_of_ble_eq_true rfl⟩ dL_span_5 (fun u9 H locs hv hw => ?_) (fun E9 q9 ce H locs hE => by have hE : (Sum.inr (some (.int v)) : String ⊕ Option Value) = Sum.inl E9 := hE; cases hE)
      have hv : (Sum.inr (some (.int v)) : String ⊕ Option Value) = Sum.inr u9 := hv
      cases hv
      cases gOk_some hok
      refine lv_i2l (v := v.toInt64) fx.1 fx.2.1 dL_span_8 rfl ?_
      refine g_last fx hw ho hin dL_span_9 (fun H locs hw => ?_)
      refine lv_goto (tgt := 17) fx.1 fx.2.1 dL_span_10 (by decide) ?_
      refine lv_iconst (v := 0) fx.1 fx.2.1 dL_span_17 (by decide) ?_
      exact g_iret fx hw hr dL_span_18
    | inl E =>
      refine g_callVC (κ := 10) (As := [.int x1, .int x2]) (rest := [.int 0, .ref o]) fx hw (c_X10_span l X τ n hS x0 x1 x2 G h0 hf) lv_RL_108 rfl rfl h0 rfl hl.1 rfl ⟨Nat.le_of_ble_eq_true rfl, Nat.le_of_ble_eq_true rfl⟩ (Nat.le_of_ble_eq_true rfl) ⟨Nat.le_of_ble_eq_true rfl, Nat.le_of_ble_eq_true rfl⟩ dL_span_5 (fun u9 H locs hv => by have hv : (Sum.inl E : String ⊕ Option Value) = Sum.inr u9 := hv; cases hv) (fun E9 q9 ce H locs hE hw hce hcv hcl => ?_)
      have hE : (Sum.inl E : String ⊕ Option Value) = Sum.inl E9 := hE
      cases hE
      by_cases e0 : E = x_IAE
      · subst e0
        have h : some ((1 : Int32), G1) = some (r, G') := h
        cases h
        refine g_catch fx hS hN hxt [] ⟨0, 10, 13, 13⟩ [] rfl (fun z hz => by cases hz) (by decide) (by decide) lcl_13 lca_13 hce hcv hcl ?_
        refine lv_astore (lv' := (4, .ref q9) :: [(0, .ref x0), (1, .int x1), (2, .int x2), (3, .ref o)]) fx.1 fx.2.1 dL_span_13 hl (by decide) rfl (fun ls hl => ?_)
        refine lv_iconst (v := 1) fx.1 fx.2.1 dL_span_15 (by decide) ?_
        exact g_iret fx hw hr dL_span_16
      have h : (gCode [] E 2).map (fun c => (c, G1)) = some (r, G') := by
        have h1 : (gCode (x_IAE :: []) E 1).map (fun c => (c, G1)) = some (r, G') := h
        rw [gCode, if_neg e0] at h1
        exact h1
      cases h
theorem dL_led_0 : decode cL_led 0 = .ok (.aload_n 3, 1) := by decide +kernel
theorem dL_led_1 : decode cL_led 1 = .ok (.iconst 0, 1) := by decide +kernel
theorem dL_led_2 : decode cL_led 2 = .ok (.aload_n 0, 1) := by decide +kernel
theorem dL_led_3 : decode cL_led 3 = .ok (.iload_n 1, 1) := by decide +kernel
theorem dL_led_4 : decode cL_led 4 = .ok (.iload_n 2, 1) := by decide +kernel
theorem dL_led_5 : decode cL_led 5 = .ok (.invokevirtual 111, 3) := by decide +kernel
theorem dL_led_8 : decode cL_led 8 = .ok (.i2l, 1) := by decide +kernel
theorem dL_led_9 : decode cL_led 9 = .ok (.lastore, 1) := by decide +kernel
theorem dL_led_10 : decode cL_led 10 = .ok (.goto 7, 3) := by decide +kernel
theorem dL_led_13 : decode cL_led 13 = .ok (.astore 4, 2) := by decide +kernel
theorem dL_led_15 : decode cL_led 15 = .ok (.iconst 1, 1) := by decide +kernel
theorem dL_led_16 : decode cL_led 16 = .ok (.ireturn, 1) := by decide +kernel
theorem dL_led_17 : decode cL_led 17 = .ok (.iconst 0, 1) := by decide +kernel
theorem dL_led_18 : decode cL_led 18 = .ok (.ireturn, 1) := by decide +kernel
def rm_L_led : Room := { frames := 8, cells := 1, slots := 6, locals := 163 }
def hh_L_led : List (Nat × Nat × Nat × Nat) := [(0, 10, 13, 24)]
def f_L_led (τ : gτ) (n : Nat) (x0 : Nat) (x1 : Int32) (x2 : Int32) (o : Nat) (G : gG) : Option (Int32 × gG) :=
  gTry (f_X10_led τ n x0 x1 x2 G) [x_IOE] fun v G => gchk (gIn 0 (gn τ o)) <| some (0, gsl G o 0 v.toInt64)
theorem lv_RL_111 : gLv RL 111 RX10 yX10_led cX10_led 3 (some .int) 2 := gLv_of (wA_t (wt6 (List.mem_of_getElem? (i := 174) (by decide +kernel))) (by decide +kernel)) (wA_t (wt6 (List.mem_of_getElem? (i := 175) (by decide +kernel))) (by decide +kernel)) (wA_t (wt6 (List.mem_of_getElem? (i := 176) (by decide +kernel))) (by decide +kernel)) (wA_t (wt1 (List.mem_of_getElem? (i := 1) (by decide +kernel))) (by decide +kernel)) (wA_t (wt6 (List.mem_of_getElem? (i := 177) (by decide +kernel))) (by decide +kernel)) ⟨rfl, by decide +kernel, by decide +kernel, by decide +kernel⟩
set_option maxHeartbeats 4000000 in
set_option maxRecDepth 100000 in
theorem c_L_led (l : Launch) (X : gX) (τ : gτ) (n : Nat) (hS : gS0 l X) (hN : gS1 X) (x0 : Nat) (x1 : Int32) (x2 : Int32) (o : Nat) (G : gG) (h0 : gK τ x0 10) (ho : gK τ o 18) {r : Int32} {G' : gG} (h : f_L_led τ n x0 x1 x2 o G = some (r, G')) : gMW l X τ yL_led cL_led 5 (some .int) hh_L_led rm_L_led [.ref x0, .int x1, .int x2, .ref o] G (some (.int r)) G' := by
  refine g_bodyW (by decide +kernel) (Nat.le_of_ble_eq_true rfl) ?_
  intro p e s m args below meth c ls fx hr hxt hw hl
  have fx : gFx X p s m args meth c cL_led 5 RL := fx
  have hl : lv_has ls 5 [(0, .ref x0), (1, .int x1), (2, .int x2), (3, .ref o)] := hl
  show W p l e rm_L_led s m args below meth c s.heap [] 0 0 (MQ below (gQ X τ (some (.int r)) G') args s rm_L_led.cells rm_L_led.slots (gFree X)) _
  unfold f_L_led gTry at h
  refine lv_aload_n fx.1 fx.2.1 dL_led_0 rfl (lv_at hl 3 rfl) ?_
  refine lv_iconst (v := 0) fx.1 fx.2.1 dL_led_1 (by decide) ?_
  refine lv_aload_n fx.1 fx.2.1 dL_led_2 rfl (lv_at hl 0 rfl) ?_
  refine lv_iload_n fx.1 fx.2.1 dL_led_3 rfl (lv_at hl 1 rfl) ?_
  refine lv_iload_n fx.1 fx.2.1 dL_led_4 rfl (lv_at hl 2 rfl) ?_
  cases hf : f_X10_led τ n x0 x1 x2 G with
  | none => rw [hf] at h; cases h
  | some q =>
    obtain ⟨ov, G1⟩ := q
    rw [hf] at h
    cases ov with
    | inr v =>
      have hok : gOk (ρ := Int32 × gG) (gchk (gIn 0 (gn τ o)) (some (0, gsl G1 o 0 v.toInt64))) (fun q => q = (r, G')) := ⟨_, h, rfl⟩
      obtain ⟨hin, hok⟩ := gOk_chk hok
      refine g_callVC (κ := 10) (As := [.int x1, .int x2]) (rest := [.int 0, .ref o]) fx hw (c_X10_led l X τ n hS x0 x1 x2 G h0 hf) lv_RL_111 rfl rfl h0 rfl hl.1 rfl ⟨Nat.le_of_ble_eq_true rfl, Nat.le_of_ble_eq_true rfl⟩ (Nat.le_of_ble_eq_true rfl) ⟨Nat.le_of_ble_eq_true rfl, Nat.le_of_ble_eq_true rfl⟩ dL_led_5 (fun u9 H locs hv hw => ?_) (fun E9 q9 ce H locs hE => by have hE : (Sum.inr (some (.int v)) : String ⊕ Option Value) = Sum.inl E9 := hE; cases hE)
      have hv : (Sum.inr (some (.int v)) : String ⊕ Option Value) = Sum.inr u9 := hv
      cases hv
      cases gOk_some hok
      refine lv_i2l (v := v.toInt64) fx.1 fx.2.1 dL_led_8 rfl ?_
      refine g_last fx hw ho hin dL_led_9 (fun H locs hw => ?_)
      refine lv_goto (tgt := 17) fx.1 fx.2.1 dL_led_10 (by decide) ?_
      refine lv_iconst (v := 0) fx.1 fx.2.1 dL_led_17 (by decide) ?_
      exact g_iret fx hw hr dL_led_18
    | inl E =>
      refine g_callVC (κ := 10) (As := [.int x1, .int x2]) (rest := [.int 0, .ref o]) fx hw (c_X10_led l X τ n hS x0 x1 x2 G h0 hf) lv_RL_111 rfl rfl h0 rfl hl.1 rfl ⟨Nat.le_of_ble_eq_true rfl, Nat.le_of_ble_eq_true rfl⟩ (Nat.le_of_ble_eq_true rfl) ⟨Nat.le_of_ble_eq_true rfl, Nat.le_of_ble_eq_true rfl⟩ dL_led_5 (fun u9 H locs hv => by have hv : (Sum.inl E : String ⊕ Option Value) = Sum.inr u9 := hv; cases hv) (fun E9 q9 ce H locs hE hw hce hcv hcl => ?_)
      have hE : (Sum.inl E : String ⊕ Option Value) = Sum.inl E9 := hE
      cases hE
      by_cases e0 : E = x_IOE
      · subst e0
        have h : some ((1 : Int32), G1) = some (r, G') := h
        cases h
        refine g_catch fx hS hN hxt [] ⟨0, 10, 13, 24⟩ [] rfl (fun z hz => by cases hz) (by decide) (by decide) lcl_24 lca_24 hce hcv hcl ?_
        refine lv_astore (lv' := (4, .ref q9) :: [(0, .ref x0), (1, .int x1), (2, .int x2), (3, .ref o)]) fx.1 fx.2.1 dL_led_13 hl (by decide) rfl (fun ls hl => ?_)
        refine lv_iconst (v := 1) fx.1 fx.2.1 dL_led_15 (by decide) ?_
        exact g_iret fx hw hr dL_led_16
      have h : (gCode [] E 2).map (fun c => (c, G1)) = some (r, G') := by
        have h1 : (gCode (x_IOE :: []) E 1).map (fun c => (c, G1)) = some (r, G') := h
        rw [gCode, if_neg e0] at h1
        exact h1
      cases h
theorem dL_log_0 : decode cL_log 0 = .ok (.aload_n 3, 1) := by decide +kernel
theorem dL_log_1 : decode cL_log 1 = .ok (.iconst 0, 1) := by decide +kernel
theorem dL_log_2 : decode cL_log 2 = .ok (.aload_n 0, 1) := by decide +kernel
theorem dL_log_3 : decode cL_log 3 = .ok (.iload_n 1, 1) := by decide +kernel
theorem dL_log_4 : decode cL_log 4 = .ok (.iload_n 2, 1) := by decide +kernel
theorem dL_log_5 : decode cL_log 5 = .ok (.invokevirtual 114, 3) := by decide +kernel
theorem dL_log_8 : decode cL_log 8 = .ok (.i2l, 1) := by decide +kernel
theorem dL_log_9 : decode cL_log 9 = .ok (.lastore, 1) := by decide +kernel
theorem dL_log_10 : decode cL_log 10 = .ok (.goto 7, 3) := by decide +kernel
theorem dL_log_13 : decode cL_log 13 = .ok (.astore 4, 2) := by decide +kernel
theorem dL_log_15 : decode cL_log 15 = .ok (.iconst 1, 1) := by decide +kernel
theorem dL_log_16 : decode cL_log 16 = .ok (.ireturn, 1) := by decide +kernel
theorem dL_log_17 : decode cL_log 17 = .ok (.iconst 0, 1) := by decide +kernel
theorem dL_log_18 : decode cL_log 18 = .ok (.ireturn, 1) := by decide +kernel
def rm_L_log : Room := { frames := 7, cells := 1, slots := 6, locals := 142 }
def hh_L_log : List (Nat × Nat × Nat × Nat) := [(0, 10, 13, 26)]
def f_L_log (τ : gτ) (n : Nat) (x0 : Nat) (x1 : Int32) (x2 : Int32) (o : Nat) (G : gG) : Option (Int32 × gG) :=
  gTry (f_X10_log τ x0 x1 x2 G) [x_NSE] fun v G => gchk (gIn 0 (gn τ o)) <| some (0, gsl G o 0 v.toInt64)
theorem lv_RL_114 : gLv RL 114 RX10 yX10_log cX10_log 3 (some .int) 2 := gLv_of (wA_t (wt6 (List.mem_of_getElem? (i := 197) (by decide +kernel))) (by decide +kernel)) (wA_t (wt6 (List.mem_of_getElem? (i := 198) (by decide +kernel))) (by decide +kernel)) (wA_t (wt6 (List.mem_of_getElem? (i := 199) (by decide +kernel))) (by decide +kernel)) (wA_t (wt1 (List.mem_of_getElem? (i := 1) (by decide +kernel))) (by decide +kernel)) (wA_t (wt6 (List.mem_of_getElem? (i := 200) (by decide +kernel))) (by decide +kernel)) ⟨rfl, by decide +kernel, by decide +kernel, by decide +kernel⟩
set_option maxHeartbeats 4000000 in
set_option maxRecDepth 100000 in
theorem c_L_log (l : Launch) (X : gX) (τ : gτ) (n : Nat) (hS : gS0 l X) (hN : gS1 X) (x0 : Nat) (x1 : Int32) (x2 : Int32) (o : Nat) (G : gG) (h0 : gK τ x0 10) (ho : gK τ o 18) {r : Int32} {G' : gG} (h : f_L_log τ n x0 x1 x2 o G = some (r, G')) : gMW l X τ yL_log cL_log 5 (some .int) hh_L_log rm_L_log [.ref x0, .int x1, .int x2, .ref o] G (some (.int r)) G' := by
  refine g_bodyW (by decide +kernel) (Nat.le_of_ble_eq_true rfl) ?_
  intro p e s m args below meth c ls fx hr hxt hw hl
  have fx : gFx X p s m args meth c cL_log 5 RL := fx
  have hl : lv_has ls 5 [(0, .ref x0), (1, .int x1), (2, .int x2), (3, .ref o)] := hl
  show W p l e rm_L_log s m args below meth c s.heap [] 0 0 (MQ below (gQ X τ (some (.int r)) G') args s rm_L_log.cells rm_L_log.slots (gFree X)) _
  unfold f_L_log gTry at h
  refine lv_aload_n fx.1 fx.2.1 dL_log_0 rfl (lv_at hl 3 rfl) ?_
  refine lv_iconst (v := 0) fx.1 fx.2.1 dL_log_1 (by decide) ?_
  refine lv_aload_n fx.1 fx.2.1 dL_log_2 rfl (lv_at hl 0 rfl) ?_
  refine lv_iload_n fx.1 fx.2.1 dL_log_3 rfl (lv_at hl 1 rfl) ?_
  refine lv_iload_n fx.1 fx.2.1 dL_log_4 rfl (lv_at hl 2 rfl) ?_
  cases hf : f_X10_log τ x0 x1 x2 G with
  | none => rw [hf] at h; cases h
  | some q =>
    obtain ⟨ov, G1⟩ := q
    rw [hf] at h
    cases ov with
    | inr v =>
      have hok : gOk (ρ := Int32 × gG) (gchk (gIn 0 (gn τ o)) (some (0, gsl G1 o 0 v.toInt64))) (fun q => q = (r, G')) := ⟨_, h, rfl⟩
      obtain ⟨hin, hok⟩ := gOk_chk hok
      refine g_callVC (κ := 10) (As := [.int x1, .int x2]) (rest := [.int 0, .ref o]) fx hw (c_X10_log l X τ hS x0 x1 x2 G h0 hf) lv_RL_114 rfl rfl h0 rfl hl.1 rfl ⟨Nat.le_of_ble_eq_true rfl, Nat.le_of_ble_eq_true rfl⟩ (Nat.le_of_ble_eq_true rfl) ⟨Nat.le_of_ble_eq_true rfl, Nat.le_of_ble_eq_true rfl⟩ dL_log_5 (fun u9 H locs hv hw => ?_) (fun E9 q9 ce H locs hE => by have hE : (Sum.inr (some (.int v)) : String ⊕ Option Value) = Sum.inl E9 := hE; cases hE)
      have hv : (Sum.inr (some (.int v)) : String ⊕ Option Value) = Sum.inr u9 := hv
      cases hv
      cases gOk_some hok
      refine lv_i2l (v := v.toInt64) fx.1 fx.2.1 dL_log_8 rfl ?_
      refine g_last fx hw ho hin dL_log_9 (fun H locs hw => ?_)
      refine lv_goto (tgt := 17) fx.1 fx.2.1 dL_log_10 (by decide) ?_
      refine lv_iconst (v := 0) fx.1 fx.2.1 dL_log_17 (by decide) ?_
      exact g_iret fx hw hr dL_log_18
    | inl E =>
      refine g_callVC (κ := 10) (As := [.int x1, .int x2]) (rest := [.int 0, .ref o]) fx hw (c_X10_log l X τ hS x0 x1 x2 G h0 hf) lv_RL_114 rfl rfl h0 rfl hl.1 rfl ⟨Nat.le_of_ble_eq_true rfl, Nat.le_of_ble_eq_true rfl⟩ (Nat.le_of_ble_eq_true rfl) ⟨Nat.le_of_ble_eq_true rfl, Nat.le_of_ble_eq_true rfl⟩ dL_log_5 (fun u9 H locs hv => by have hv : (Sum.inl E : String ⊕ Option Value) = Sum.inr u9 := hv; cases hv) (fun E9 q9 ce H locs hE hw hce hcv hcl => ?_)
      have hE : (Sum.inl E : String ⊕ Option Value) = Sum.inl E9 := hE
      cases hE
      by_cases e0 : E = x_NSE
      · subst e0
        have h : some ((1 : Int32), G1) = some (r, G') := h
        cases h
        refine g_catch fx hS hN hxt [] ⟨0, 10, 13, 26⟩ [] rfl (fun z hz => by cases hz) (by decide) (by decide) lcl_26 lca_26 hce hcv hcl ?_
        refine lv_astore (lv' := (4, .ref q9) :: [(0, .ref x0), (1, .int x1), (2, .int x2), (3, .ref o)]) fx.1 fx.2.1 dL_log_13 hl (by decide) rfl (fun ls hl => ?_)
        refine lv_iconst (v := 1) fx.1 fx.2.1 dL_log_15 (by decide) ?_
        exact g_iret fx hw hr dL_log_16
      have h : (gCode [] E 2).map (fun c => (c, G1)) = some (r, G') := by
        have h1 : (gCode (x_NSE :: []) E 1).map (fun c => (c, G1)) = some (r, G') := h
        rw [gCode, if_neg e0] at h1
        exact h1
      cases h
