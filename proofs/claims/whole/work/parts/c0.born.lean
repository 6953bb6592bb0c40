/-! BEHIND THE CONSTRUCTORS: what each of them leaves -/
section
variable {τ τ' τ1 : gτ} {G G' G1 : gG} {a b x y z s l m κ n c k i lo hi : Nat} {A B : Nat → Prop}
theorem bo_in {z : Nat} : gi (gnw G z) c k a = if a = z then 0 else gi G c k a := rfl
theorem bo_rn {z : Nat} : gr (gnw G z) c k a = if a = z then none else gr G c k a := rfl
theorem bo_en {z : Nat} : ge (gnw G z) a i = if a = z then 0 else ge G a i := rfl
theorem bo_qn {z : Nat} : gq (gnw G z) a i = if a = z then none else gq G a i := rfl
theorem bo_iq {j : Nat} {v : Option Nat} : gi (gsq G b j v) c k a = gi G c k a := rfl
theorem bo_rq {j : Nat} {v : Option Nat} : gr (gsq G b j v) c k a = gr G c k a := rfl
theorem bo_qq {j : Nat} {v : Option Nat} : gq (gsq G b j v) a i = if a = b ∧ i = j then v else gq G a i := rfl
theorem bo_fn {z : Nat} (h : A z) : Fr A G (gnw G z) := fun b hb => by
  have e : b ≠ z := fun e => hb (e ▸ h)
  refine ⟨fun c k => by rw [bo_in, if_neg e], fun c k => by rw [bo_rn, if_neg e], ?_, ?_, ?_⟩
  · funext j; rw [bo_en, if_neg e]
  · funext j; rw [bo_qn, if_neg e]
  · funext j
    show (if b = z then 0 else gl G b j) = _
    rw [if_neg e]
theorem bo_fq {j : Nat} {v : Option Nat} (h : A a) : Fr A G (gsq G a j v) := fun b hb => gSame.q (fun e => hb (e ▸ h))
/-- nothing but the cells of A has changed -/
def BF (A : Nat → Prop) (τ : gτ) (G : gG) (τ' : gτ) (G' : gG) : Prop := Fr A G G' ∧ ∀ b, ¬ A b → τ' b = τ b
theorem BF.rf : BF A τ G τ G := ⟨Fr.rf, fun _ _ => rfl⟩
theorem BF.tr (h : BF A τ G τ1 G1) (h' : BF A τ1 G1 τ' G') : BF A τ G τ' G' := ⟨h.1.tr h'.1, fun b hb => (h'.2 b hb).trans (h.2 b hb)⟩
theorem BF.mono (h : BF A τ G τ' G') (hAB : ∀ b, A b → B b) : BF B τ G τ' G' := ⟨h.1.mono hAB, fun b hb => h.2 b fun e => hb (hAB b e)⟩
theorem BF.nw (h : A z) : BF A τ G (gnt τ z κ n) (gnw G z) := ⟨bo_fn h, fun b hb => by unfold gnt; rw [if_neg (show ¬ b = z from fun e => hb (e ▸ h))]⟩
theorem gn_at2 (h : τ' a = τ a) : gn τ' a = gn τ a := by unfold gn; rw [h]
theorem gn_new : gn (gnt τ z κ n) z = n := by unfold gn gnt; rw [if_pos rfl]
theorem gn_ne (h : a ≠ z) : gn (gnt τ z κ n) a = gn τ a := gn_at2 (by unfold gnt; rw [if_neg h])
theorem gkd_at2 (h : τ' a = τ a) (hk : gkd τ a κ) : gkd τ' a κ := by
  show (τ' a).map Prod.fst = some κ
  rw [h]
  exact hk
theorem FS.up (h : FS τ G s) (hf : BF A τ G τ' G') (hs : ∀ b, s ≤ b → b ≤ s + 31 → ¬ A b) : FS τ' G' s := by
  have h1 := hf.1.fs h hs
  obtain ⟨a, ⟨b1, b2, b3, b4⟩, c, d, e⟩ := h1
  refine ⟨a, ⟨?_, ?_, ?_, ?_⟩, fun i hi => ⟨(c i hi).1, ?_⟩, fun i hi => ⟨(d i hi).1, ?_⟩, fun i hi => ⟨(e i hi).1, ?_⟩⟩
  · rw [gn_at2 (hf.2 _ (hs _ (by omega) (by omega)))]; exact b1
  · rw [gn_at2 (hf.2 _ (hs _ (by omega) (by omega)))]; exact b2
  · rw [gn_at2 (hf.2 _ (hs _ (by omega) (by omega)))]; exact b3
  · rw [gn_at2 (hf.2 _ (hs _ (by omega) (by omega)))]; exact b4
  · exact gkd_at2 (hf.2 _ (hs _ (by omega) (by omega))) (c i hi).2
  · exact gkd_at2 (hf.2 _ (hs _ (by omega) (by omega))) (d i hi).2
  · exact gkd_at2 (hf.2 _ (hs _ (by omega) (by omega))) (e i hi).2
theorem FL.up (h : FL τ G l) (hf : BF A τ G τ' G') (hs : ∀ b, l ≤ b → b ≤ l + 6 → ¬ A b) : FL τ' G' l := by
  obtain ⟨a, b1, b2, b3, b4, b5, b6⟩ := hf.1.fl h (hs _ (by omega) (by omega))
  refine ⟨a, ?_, ?_, ?_, ?_, ?_, ?_⟩
  · rw [gn_at2 (hf.2 _ (hs _ (by omega) (by omega)))]; exact b1
  · rw [gn_at2 (hf.2 _ (hs _ (by omega) (by omega)))]; exact b2
  · rw [gn_at2 (hf.2 _ (hs _ (by omega) (by omega)))]; exact b3
  · rw [gn_at2 (hf.2 _ (hs _ (by omega) (by omega)))]; exact b4
  · rw [gn_at2 (hf.2 _ (hs _ (by omega) (by omega)))]; exact b5
  · rw [gn_at2 (hf.2 _ (hs _ (by omega) (by omega)))]; exact b6
/-- objects in a row -/
theorem bo_f (ha : a < z) : ∀ k, BF (fun b => b = a ∨ (z ≤ b ∧ b < z + k)) τ G (fT τ z κ k) (fG G z a k) ∧ (∀ i, i < k → gq (fG G z a k) a i = some (z + i)) ∧ ∀ i, i < k → fT τ z κ k (z + i) = some (κ, 0) := by
  intro k
  induction k with
  | zero => exact ⟨BF.rf, fun i hi => absurd hi (Nat.not_lt_zero _), fun i hi => absurd hi (Nat.not_lt_zero _)⟩
  | succ k ih =>
    obtain ⟨h1, h2, h3⟩ := ih
    have h1' : BF (fun b => b = a ∨ (z ≤ b ∧ b < z + (k + 1))) τ G (fT τ z κ k) (fG G z a k) := h1.mono fun b hb => by omega
    have hn : BF (fun b => b = a ∨ (z ≤ b ∧ b < z + (k + 1))) (fT τ z κ k) (fG G z a k) (gnt (fT τ z κ k) (z + k) κ 0) (gnw (fG G z a k) (z + k)) := BF.nw (by omega)
    refine ⟨⟨(h1'.1.tr hn.1).tr (bo_fq (Or.inl rfl)), fun b hb => (hn.2 b hb).trans (h1'.2 b hb)⟩, fun i hi => ?_, fun i hi => ?_⟩
    · show gq (gsq (gnw (fG G z a k) (z + k)) a k (some (z + k))) a i = _
      rw [bo_qq, bo_qn]
      by_cases hik : i = k
      · rw [if_pos ⟨rfl, hik⟩, hik]
      · rw [if_neg (fun e => hik e.2), if_neg (by omega)]
        exact h2 i (by omega)
    · show gnt (fT τ z κ k) (z + k) κ 0 (z + i) = _
      unfold gnt
      by_cases hik : i = k
      · rw [if_pos (by rw [hik])]
      · rw [if_neg (by omega)]
        exact h3 i (by omega)
theorem bo_X0 : BF (fun b => a ≤ b ∧ b ≤ a + 1) τ G (iT_X0_init (a + 1) (gnt τ a 0 0)) (iG_X0_init (a + 1) a (gnw G a)) ∧ gr (iG_X0_init (a + 1) a (gnw G a)) 0 0 a = some (a + 1) ∧ gn (iT_X0_init (a + 1) (gnt τ a 0 0)) (a + 1) = 300 ∧ ∀ c k, gi (iG_X0_init (a + 1) a (gnw G a)) c k a = 0 := by
  unfold iT_X0_init iG_X0_init
  have h1 : BF (fun b => a ≤ b ∧ b ≤ a + 1) τ G (gnt τ a 0 0) (gnw G a) := BF.nw (by omega)
  have h2 : BF (fun b => a ≤ b ∧ b ≤ a + 1) (gnt τ a 0 0) (gnw G a) (gnt (gnt τ a 0 0) (a + 1) 13 300) (gnw (gnw G a) (a + 1)) := BF.nw (by omega)
  have h12 := h1.tr h2
  refine ⟨⟨h12.1.tr (Fr.r (by omega)), h12.2⟩, ?_, gn_new, fun c k => ?_⟩
  · rw [ka_rr, if_pos ⟨rfl, rfl, rfl⟩]
  · rw [ka_ir, bo_in, if_neg (by omega), bo_in, if_pos rfl]
theorem bo_X6 : BF (fun b => s ≤ b ∧ b ≤ s + 31) τ G (iT_X6_init (s + 1) (gnt τ s 6 0)) (iG_X6_init (s + 1) s (gnw G s)) ∧ FS (iT_X6_init (s + 1) (gnt τ s 6 0)) (iG_X6_init (s + 1) s (gnw G s)) s ∧ (∀ k, gi (iG_X6_init (s + 1) s (gnw G s)) 6 k s = if k = 11 then 1 else 0) ∧ ∀ k, gi (iG_X6_init (s + 1) s (gnw G s)) 0 k (s + 4) = 0 := by
  -- the row, the ropes, the orders, the log
  have h0 : BF (fun b => s ≤ b ∧ b ≤ s + 31) τ G (gnt τ s 6 0) (gnw G s) := BF.nw (by omega)
  have z0 : ∀ k, gi (gnw G s) 6 k s = 0 := fun k => by rw [bo_in, if_pos rfl]
  generalize gnt τ s 6 0 = τ0 at h0
  generalize gnw G s = G0 at h0 z0
  have t1 : ∀ b, b ≠ s + 1 → gnt τ0 (s + 1) 17 10 b = τ0 b := fun b hb => by unfold gnt; rw [if_neg hb]
  have h1 : BF (fun b => s ≤ b ∧ b ≤ s + 31) τ0 G0 (gnt τ0 (s + 1) 17 10) (gsr (gnw G0 (s + 1)) 6 0 s (some (s + 1))) := ⟨(bo_fn (by omega)).tr (Fr.r (by omega)), fun b hb => t1 b (by omega)⟩
  have r1 : gr (gsr (gnw G0 (s + 1)) 6 0 s (some (s + 1))) 6 0 s = some (s + 1) := by rw [ka_rr, if_pos ⟨rfl, rfl, rfl⟩]
  have n1 : gn (gnt τ0 (s + 1) 17 10) (s + 1) = 10 := gn_new
  have z1 : ∀ k, gi (gsr (gnw G0 (s + 1)) 6 0 s (some (s + 1))) 6 k s = 0 := fun k => by rw [ka_ir, bo_in, if_neg (by omega)]; exact z0 k
  have e1 : iT_X6_init (s + 1) τ0 = fT (fT (fT (gnt (gnt (gnt (gnt (gnt τ0 (s + 1) 17 10) (s + 2) 15 8) (s + 3) 14 8) (s + 4) 0 0) (s + 5) 13 300) (s + 6) 9 10) (s + 16) 5 8) (s + 24) 4 8 := rfl
  have e2 : iG_X6_init (s + 1) s G0 = fG (fG (fG (gsi (gsr (gsr (gnw (gnw (gsr (gnw (gsr (gnw (gsr (gnw G0 (s + 1)) 6 0 s (some (s + 1))) (s + 2)) 6 1 s (some (s + 2))) (s + 3)) 6 2 s (some (s + 3))) (s + 4)) (s + 5)) 0 0 (s + 4) (some (s + 5))) 6 3 s (some (s + 4))) 6 11 s 1) (s + 6) (s + 1) 10) (s + 16) (s + 2) 8) (s + 24) (s + 3) 8 := rfl
  rw [e1, e2]
  clear e1 e2 t1
  have h01 := h0.tr h1
  generalize gnt τ0 (s + 1) 17 10 = τ1 at h01 n1
  generalize gsr (gnw G0 (s + 1)) 6 0 s (some (s + 1)) = G1 at h01 r1 z1
  have t2 : ∀ b, b ≠ s + 2 → gnt τ1 (s + 2) 15 8 b = τ1 b := fun b hb => by unfold gnt; rw [if_neg hb]
  have h2 : BF (fun b => s ≤ b ∧ b ≤ s + 31) τ1 G1 (gnt τ1 (s + 2) 15 8) (gsr (gnw G1 (s + 2)) 6 1 s (some (s + 2))) := ⟨(bo_fn (by omega)).tr (Fr.r (by omega)), fun b hb => t2 b (by omega)⟩
  have r2 : gr (gsr (gnw G1 (s + 2)) 6 1 s (some (s + 2))) 6 0 s = some (s + 1) ∧ gr (gsr (gnw G1 (s + 2)) 6 1 s (some (s + 2))) 6 1 s = some (s + 2) := by
    refine ⟨?_, by rw [ka_rr, if_pos ⟨rfl, rfl, rfl⟩]⟩
    rw [ka_rr, if_neg (fun h => absurd h.2.1 (by decide)), bo_rn, if_neg (by omega)]
    exact r1
  have n2 : gn (gnt τ1 (s + 2) 15 8) (s + 1) = 10 ∧ gn (gnt τ1 (s + 2) 15 8) (s + 2) = 8 := ⟨(gn_ne (by omega)).trans n1, gn_new⟩
  have z2 : ∀ k, gi (gsr (gnw G1 (s + 2)) 6 1 s (some (s + 2))) 6 k s = 0 := fun k => by rw [ka_ir, bo_in, if_neg (by omega)]; exact z1 k
  have h02 := h01.tr h2
  clear t2 h01 h2 h1 h0
  generalize gnt τ1 (s + 2) 15 8 = τ2 at h02 n2
  generalize gsr (gnw G1 (s + 2)) 6 1 s (some (s + 2)) = G2 at h02 r2 z2
  have t3 : ∀ b, b ≠ s + 3 → gnt τ2 (s + 3) 14 8 b = τ2 b := fun b hb => by unfold gnt; rw [if_neg hb]
  have h3 : BF (fun b => s ≤ b ∧ b ≤ s + 31) τ2 G2 (gnt τ2 (s + 3) 14 8) (gsr (gnw G2 (s + 3)) 6 2 s (some (s + 3))) := ⟨(bo_fn (by omega)).tr (Fr.r (by omega)), fun b hb => t3 b (by omega)⟩
  have r3 : gr (gsr (gnw G2 (s + 3)) 6 2 s (some (s + 3))) 6 0 s = some (s + 1) ∧ gr (gsr (gnw G2 (s + 3)) 6 2 s (some (s + 3))) 6 1 s = some (s + 2) ∧ gr (gsr (gnw G2 (s + 3)) 6 2 s (some (s + 3))) 6 2 s = some (s + 3) := by
    refine ⟨?_, ?_, by rw [ka_rr, if_pos ⟨rfl, rfl, rfl⟩]⟩
    · rw [ka_rr, if_neg (fun h => absurd h.2.1 (by decide)), bo_rn, if_neg (by omega)]
      exact r2.1
    · rw [ka_rr, if_neg (fun h => absurd h.2.1 (by decide)), bo_rn, if_neg (by omega)]
      exact r2.2
  have n3 : gn (gnt τ2 (s + 3) 14 8) (s + 1) = 10 ∧ gn (gnt τ2 (s + 3) 14 8) (s + 2) = 8 ∧ gn (gnt τ2 (s + 3) 14 8) (s + 3) = 8 := ⟨(gn_ne (by omega)).trans n2.1, (gn_ne (by omega)).trans n2.2, gn_new⟩
  have z3 : ∀ k, gi (gsr (gnw G2 (s + 3)) 6 2 s (some (s + 3))) 6 k s = 0 := fun k => by rw [ka_ir, bo_in, if_neg (by omega)]; exact z2 k
  have h03 := h02.tr h3
  clear t3 h02 h3
  generalize gnt τ2 (s + 3) 14 8 = τ3 at h03 n3
  generalize gsr (gnw G2 (s + 3)) 6 2 s (some (s + 3)) = G3 at h03 r3 z3
  have h4 : BF (fun b => s ≤ b ∧ b ≤ s + 31) τ3 G3 (gnt (gnt τ3 (s + 4) 0 0) (s + 5) 13 300) (gsi (gsr (gsr (gnw (gnw G3 (s + 4)) (s + 5)) 0 0 (s + 4) (some (s + 5))) 6 3 s (some (s + 4))) 6 11 s 1) := by
    refine ⟨((((bo_fn (by omega)).tr (bo_fn (by omega))).tr (Fr.r (by omega))).tr (Fr.r (by omega))).tr (Fr.i (by omega)), fun b hb => ?_⟩
    unfold gnt
    rw [if_neg (by omega), if_neg (by omega)]
  have r4 : gr (gsi (gsr (gsr (gnw (gnw G3 (s + 4)) (s + 5)) 0 0 (s + 4) (some (s + 5))) 6 3 s (some (s + 4))) 6 11 s 1) 6 0 s = some (s + 1) ∧ gr (gsi (gsr (gsr (gnw (gnw G3 (s + 4)) (s + 5)) 0 0 (s + 4) (some (s + 5))) 6 3 s (some (s + 4))) 6 11 s 1) 6 1 s = some (s + 2) ∧ gr (gsi (gsr (gsr (gnw (gnw G3 (s + 4)) (s + 5)) 0 0 (s + 4) (some (s + 5))) 6 3 s (some (s + 4))) 6 11 s 1) 6 2 s = some (s + 3) ∧ gr (gsi (gsr (gsr (gnw (gnw G3 (s + 4)) (s + 5)) 0 0 (s + 4) (some (s + 5))) 6 3 s (some (s + 4))) 6 11 s 1) 6 3 s = some (s + 4) ∧ gr (gsi (gsr (gsr (gnw (gnw G3 (s + 4)) (s + 5)) 0 0 (s + 4) (some (s + 5))) 6 3 s (some (s + 4))) 6 11 s 1) 0 0 (s + 4) = some (s + 5) := by
    obtain ⟨a1, a2, a3⟩ := r3
    refine ⟨?_, ?_, ?_, ?_, ?_⟩
    · rw [ka_ri, ka_rr, if_neg (fun h => absurd h.2.1 (by decide)), ka_rr, if_neg (fun h => absurd h.1 (by decide)), bo_rn, if_neg (by omega), bo_rn, if_neg (by omega)]; exact a1
    · rw [ka_ri, ka_rr, if_neg (fun h => absurd h.2.1 (by decide)), ka_rr, if_neg (fun h => absurd h.1 (by decide)), bo_rn, if_neg (by omega), bo_rn, if_neg (by omega)]; exact a2
    · rw [ka_ri, ka_rr, if_neg (fun h => absurd h.2.1 (by decide)), ka_rr, if_neg (fun h => absurd h.1 (by decide)), bo_rn, if_neg (by omega), bo_rn, if_neg (by omega)]; exact a3
    · rw [ka_ri, ka_rr, if_pos ⟨rfl, rfl, rfl⟩]
    · rw [ka_ri, ka_rr, if_neg (fun h => absurd h.1 (by decide)), ka_rr, if_pos ⟨rfl, rfl, rfl⟩]
  have n4 : gn (gnt (gnt τ3 (s + 4) 0 0) (s + 5) 13 300) (s + 1) = 10 ∧ gn (gnt (gnt τ3 (s + 4) 0 0) (s + 5) 13 300) (s + 2) = 8 ∧ gn (gnt (gnt τ3 (s + 4) 0 0) (s + 5) 13 300) (s + 3) = 8 ∧ gn (gnt (gnt τ3 (s + 4) 0 0) (s + 5) 13 300) (s + 5) = 300 := by
    obtain ⟨a1, a2, a3⟩ := n3
    refine ⟨?_, ?_, ?_, gn_new⟩
    · rw [gn_ne (by omega), gn_ne (by omega)]; exact a1
    · rw [gn_ne (by omega), gn_ne (by omega)]; exact a2
    · rw [gn_ne (by omega), gn_ne (by omega)]; exact a3
  have z4 : ∀ k, gi (gsi (gsr (gsr (gnw (gnw G3 (s + 4)) (s + 5)) 0 0 (s + 4) (some (s + 5))) 6 3 s (some (s + 4))) 6 11 s 1) 6 k s = if k = 11 then 1 else 0 := fun k => by
    rw [ka_ii]
    by_cases hk : k = 11
    · rw [if_pos ⟨rfl, hk, rfl⟩, if_pos hk]
    · rw [if_neg (fun h => hk h.2.1), if_neg hk, ka_ir, ka_ir, bo_in, if_neg (by omega), bo_in, if_neg (by omega)]
      exact z3 k
  have y4 : ∀ k, gi (gsi (gsr (gsr (gnw (gnw G3 (s + 4)) (s + 5)) 0 0 (s + 4) (some (s + 5))) 6 3 s (some (s + 4))) 6 11 s 1) 0 k (s + 4) = 0 := fun k => by
    rw [ka_ii, if_neg (fun h => absurd h.1 (by decide)), ka_ir, ka_ir, bo_in, if_neg (by omega), bo_in, if_pos rfl]
  have h04 := h03.tr h4
  clear h03 h4 r3 n3 z3
  generalize gnt (gnt τ3 (s + 4) 0 0) (s + 5) 13 300 = τ4 at h04 n4
  generalize gsi (gsr (gsr (gnw (gnw G3 (s + 4)) (s + 5)) 0 0 (s + 4) (some (s + 5))) 6 3 s (some (s + 4))) 6 11 s 1 = G4 at h04 r4 z4 y4
  -- yarns, ropes, orders
  obtain ⟨p1, p2, p3⟩ := bo_f (τ := τ4) (G := G4) (κ := 9) (a := s + 1) (z := s + 6) (by omega) 10
  have u1 : ∀ b, b < s + 6 → fT τ4 (s + 6) 9 10 b = τ4 b := fun b hb => fT_eq 10 b hb
  generalize fT τ4 (s + 6) 9 10 = τ5 at p1 p3 u1
  generalize fG G4 (s + 6) (s + 1) 10 = G5 at p1 p2
  obtain ⟨q1, q2, q3⟩ := bo_f (τ := τ5) (G := G5) (κ := 5) (a := s + 2) (z := s + 16) (by omega) 8
  have u2 : ∀ b, b < s + 16 → fT τ5 (s + 16) 5 8 b = τ5 b := fun b hb => fT_eq 8 b hb
  generalize fT τ5 (s + 16) 5 8 = τ6 at q1 q3 u2
  generalize fG G5 (s + 16) (s + 2) 8 = G6 at q1 q2
  obtain ⟨o1, o2, o3⟩ := bo_f (τ := τ6) (G := G6) (κ := 4) (a := s + 3) (z := s + 24) (by omega) 8
  have u3 : ∀ b, b < s + 24 → fT τ6 (s + 24) 4 8 b = τ6 b := fun b hb => fT_eq 8 b hb
  generalize fT τ6 (s + 24) 4 8 = τ7 at o1 o3 u3
  generalize fG G6 (s + 24) (s + 3) 8 = G7 at o1 o2
  have hA : BF (fun b => s + 1 ≤ b ∧ b ≤ s + 3 ∨ s + 6 ≤ b ∧ b ≤ s + 31) τ4 G4 τ7 G7 := ((p1.mono fun b hb => by omega).tr (q1.mono fun b hb => by omega)).tr (o1.mono fun b hb => by omega)
  have gs := hA.1 s (by omega)
  have g4 := hA.1 (s + 4) (by omega)
  refine ⟨h04.tr (hA.mono fun b hb => by omega), ⟨?_, ?_, fun i hi => ⟨?_, ?_⟩, fun i hi => ⟨?_, ?_⟩, fun i hi => ⟨o2 i hi, ?_⟩⟩, fun k => ?_, fun k => ?_⟩
  · rw [gs.2.1, gs.2.1, gs.2.1, gs.2.1, g4.2.1]; exact r4
  · have un : ∀ b, b < s + 6 → gn τ7 b = gn τ4 b := fun b hb => gn_at2 ((u3 b (by omega)).trans ((u2 b (by omega)).trans (u1 b hb)))
    rw [un (s + 1) (by omega), un (s + 2) (by omega), un (s + 3) (by omega), un (s + 5) (by omega)]
    exact n4
  · rw [(o1.1 (s + 1) (by omega)).2.2.2.1, (q1.1 (s + 1) (by omega)).2.2.2.1]; exact p2 i hi
  · show (τ7 (s + 6 + i)).map Prod.fst = some 9
    rw [o1.2 (s + 6 + i) (by omega), q1.2 (s + 6 + i) (by omega), p3 i hi]
    rfl
  · rw [(o1.1 (s + 2) (by omega)).2.2.2.1]; exact q2 i hi
  · show (τ7 (s + 16 + i)).map Prod.fst = some 5
    rw [o1.2 (s + 16 + i) (by omega), q3 i hi]
    rfl
  · show (τ7 (s + 24 + i)).map Prod.fst = some 4
    rw [o3 i hi]
    rfl
  · rw [gs.1]; exact z4 k
  · rw [g4.1]; exact y4 k
end
