/-! BEHIND THE CONSTRUCTORS: the class -/
section
variable {τ τ' τ1 : gτ} {G G' G1 : gG} {a b x y z s m κ n c k i lo hi : Nat} {A B : Nat → Prop}
/-- a step of the class's making: what was made is laid into its field -/
theorem bo_step {j : Nat} {v : Option Nat} (h : BF (fun b => lo ≤ b ∧ b ≤ hi) τ G τ' G') (hx : x < lo) : BF (fun b => b = x ∨ (lo ≤ b ∧ b ≤ hi)) τ G τ' (gsr G' 10 j x v) ∧ BF (fun b => b = x) τ' G' τ' (gsr G' 10 j x v) ∧ (∀ k, gi (gsr G' 10 j x v) 10 k x = gi G 10 k x) ∧ ∀ k, gr (gsr G' 10 j x v) 10 k x = if k = j then v else gr G 10 k x := by
  have hs : BF (fun b => b = x) τ' G' τ' (gsr G' 10 j x v) := ⟨Fr.r rfl, fun _ _ => rfl⟩
  have hg := h.1 x (by omega)
  refine ⟨(h.mono fun b hb => Or.inr hb).tr (hs.mono fun b hb => Or.inl hb), hs, fun k => ?_, fun k => ?_⟩
  · rw [ka_ir]; exact hg.1 10 k
  · rw [ka_rr]
    by_cases hk : k = j
    · rw [if_pos ⟨rfl, hk, rfl⟩, if_pos hk]
    · rw [if_neg (fun e => hk e.2.1), if_neg hk]
      exact hg.2.1 10 k

set_option maxHeartbeats 4000000 in
set_option maxRecDepth 100000 in
/-- all that stands behind the class's constructor -/
theorem bo_X10 : let τ0 := gnt τ x 10 0; let G0 := gnw G x; BF (fun b => x ≤ b ∧ b ≤ x + 511) τ G (iT_X10_init (x + 1) τ0) (iG_X10_init (x + 1) x G0) ∧ FX (iT_X10_init (x + 1) τ0) (iG_X10_init (x + 1) x G0) x (x + 434) (x + 466) (x + 498) (x + 505) ∧ (∀ k, gi (iG_X10_init (x + 1) x G0) 10 k x = 0) ∧ (gi (iG_X10_init (x + 1) x G0) 7 1 (x + 1) = 0 ∧ gi (iG_X10_init (x + 1) x G0) 7 2 (x + 1) = -1) ∧ (∀ k, gi (iG_X10_init (x + 1) x G0) 3 k (x + 5) = 0) ∧ ((∀ k, gi (iG_X10_init (x + 1) x G0) 6 k (x + 434) = if k = 11 then 1 else 0) ∧ ∀ k, gi (iG_X10_init (x + 1) x G0) 0 k (x + 438) = 0) ∧ ∀ k, gi (iG_X10_init (x + 1) x G0) 1 k (x + 498) = 0 := by
  intro τ0 G0
  have h0 : BF (fun b => x ≤ b ∧ b ≤ x + 511) τ G τ0 G0 := BF.nw (by omega)
  have z0 : ∀ k, gi G0 10 k x = 0 := fun k => by show gi (gnw G x) 10 k x = 0; rw [bo_in, if_pos rfl]
  generalize τ0 = t0 at h0 ⊢
  generalize G0 = g0 at h0 z0 ⊢
  clear τ0 G0
  unfold iT_X10_init iG_X10_init
  obtain ⟨p1, q1⟩ := bo_X7 (τ := t0) (G := g0) (a := x + 1)
  rw [show x + 1 + 1 = x + 2 by omega] at p1
  rw [show x + 1 + 1 = x + 2 by omega] at q1
  have eT : iT10_1 (x + 1) t0 = iT_X7_init (x + 2) (gnt t0 (x + 1) 7 0) := by unfold iT10_1; rw [show x + 1 + 1 = x + 2 by omega]
  have eG : iG10_1 (x + 1) x g0 = gsr (iG_X7_init (x + 2) (x + 1) (gnw g0 (x + 1))) 10 0 x (some (x + 1)) := by unfold iG10_1; rw [show x + 1 + 1 = x + 2 by omega]
  generalize iT_X7_init (x + 2) (gnt t0 (x + 1) 7 0) = t1 at p1 q1 eT
  generalize iG_X7_init (x + 2) (x + 1) (gnw g0 (x + 1)) = k1 at p1 q1 eG
  have p1 : BF (fun b => x + 1 ≤ b ∧ b ≤ x + 2) t0 g0 t1 k1 := p1.mono fun b hb => by omega
  obtain ⟨s1, u1, v1, w1⟩ := bo_step (x := x) (j := 0) (v := some (x + 1)) p1 (by omega)
  have f1 : gr (gsr (k1) 10 0 x (some (x + 1))) 7 0 (x + 1) = some (x + 2) ∧ gn (t1) (x + 2) = 400 ∧ gi (gsr (k1) 10 0 x (some (x + 1))) 7 1 (x + 1) = 0 ∧ gi (gsr (k1) 10 0 x (some (x + 1))) 7 2 (x + 1) = -1 := ⟨((u1.1 (x + 1) (by omega)).2.1 7 0).trans q1.1, q1.2.1, q1.2.2.1, q1.2.2.2⟩
  clear p1 u1 q1
  generalize gsr k1 10 0 x (some (x + 1)) = g1 at s1 v1 w1 f1 eG
  have hT1 := eT
  have hG1 := eG
  clear eT eG
  obtain ⟨p2, q2⟩ := bo_X8 (τ := t1) (G := g1) (a := x + 3) (y := x + 1)
  rw [show x + 3 + 1 = x + 4 by omega] at p2
  rw [show x + 3 + 1 = x + 4 by omega] at q2
  have eT : iT10_2 (x + 1) t0 = iT_X8_init (x + 4) (gnt t1 (x + 3) 8 0) := by unfold iT10_2; rw [hT1, show x + 1 + 3 = x + 4 by omega, show x + 1 + 2 = x + 3 by omega]
  have eG : iG10_2 (x + 1) x g0 = gsr (iG_X8_init (x + 4) (x + 3) (x + 1) (gnw g1 (x + 3))) 10 1 x (some (x + 3)) := by unfold iG10_2; rw [hG1, show x + 1 + 3 = x + 4 by omega, show x + 1 + 2 = x + 3 by omega]
  generalize iT_X8_init (x + 4) (gnt t1 (x + 3) 8 0) = t2 at p2 eT
  generalize iG_X8_init (x + 4) (x + 3) (x + 1) (gnw g1 (x + 3)) = k2 at p2 q2 eG
  have p2 : BF (fun b => x + 3 ≤ b ∧ b ≤ x + 3) t1 g1 t2 k2 := p2.mono fun b hb => by omega
  obtain ⟨s2, u2, v2, w2⟩ := bo_step (x := x) (j := 1) (v := some (x + 3)) p2 (by omega)
  have f2 : gr (gsr (k2) 10 1 x (some (x + 3))) 8 0 (x + 3) = some (x + 1) := ((u2.1 (x + 3) (by omega)).2.1 8 0).trans q2
  clear p2 u2 q2
  generalize gsr k2 10 1 x (some (x + 3)) = g2 at s2 v2 w2 f2 eG
  have hT2 := eT
  have hG2 := eG
  clear eT eG
  obtain ⟨p3, q3⟩ := bo_X2 (τ := t2) (G := g2) (a := x + 4) (y := x + 1)
  rw [show x + 4 + 1 = x + 5 by omega] at p3
  rw [show x + 4 + 1 = x + 5 by omega] at q3
  have eT : iT10_3 (x + 1) t0 = iT_X2_init (x + 5) (gnt t2 (x + 4) 2 0) := by unfold iT10_3; rw [hT2, show x + 1 + 4 = x + 5 by omega, show x + 1 + 3 = x + 4 by omega]
  have eG : iG10_3 (x + 1) x g0 = gsr (iG_X2_init (x + 5) (x + 4) (x + 1) (gnw g2 (x + 4))) 10 2 x (some (x + 4)) := by unfold iG10_3; rw [hG2, show x + 1 + 4 = x + 5 by omega, show x + 1 + 3 = x + 4 by omega]
  generalize iT_X2_init (x + 5) (gnt t2 (x + 4) 2 0) = t3 at p3 eT
  generalize iG_X2_init (x + 5) (x + 4) (x + 1) (gnw g2 (x + 4)) = k3 at p3 q3 eG
  have p3 : BF (fun b => x + 4 ≤ b ∧ b ≤ x + 4) t2 g2 t3 k3 := p3.mono fun b hb => by omega
  obtain ⟨s3, u3, v3, w3⟩ := bo_step (x := x) (j := 2) (v := some (x + 4)) p3 (by omega)
  have f3 : gr (gsr (k3) 10 2 x (some (x + 4))) 2 0 (x + 4) = some (x + 1) := ((u3.1 (x + 4) (by omega)).2.1 2 0).trans q3
  clear p3 u3 q3
  generalize gsr k3 10 2 x (some (x + 4)) = g3 at s3 v3 w3 f3 eG
  have hT3 := eT
  have hG3 := eG
  clear eT eG
  obtain ⟨p4, q4⟩ := bo_X3 (τ := t3) (G := g3) (a := x + 5)
  rw [show x + 5 + 1 = x + 6 by omega] at p4
  rw [show x + 5 + 1 = x + 6 by omega, show x + 5 + 2 = x + 7 by omega] at q4
  have eT : iT10_4 (x + 1) t0 = iT_X3_init (x + 6) (gnt t3 (x + 5) 3 0) := by unfold iT10_4; rw [hT3, show x + 1 + 5 = x + 6 by omega, show x + 1 + 4 = x + 5 by omega]
  have eG : iG10_4 (x + 1) x g0 = gsr (iG_X3_init (x + 6) (x + 5) (gnw g3 (x + 5))) 10 3 x (some (x + 5)) := by unfold iG10_4; rw [hG3, show x + 1 + 5 = x + 6 by omega, show x + 1 + 4 = x + 5 by omega]
  generalize iT_X3_init (x + 6) (gnt t3 (x + 5) 3 0) = t4 at p4 q4 eT
  generalize iG_X3_init (x + 6) (x + 5) (gnw g3 (x + 5)) = k4 at p4 q4 eG
  have p4 : BF (fun b => x + 5 ≤ b ∧ b ≤ x + 390) t3 g3 t4 k4 := p4.mono fun b hb => by omega
  obtain ⟨s4, u4, v4, w4⟩ := bo_step (x := x) (j := 3) (v := some (x + 5)) p4 (by omega)
  have fa : gr (gsr k4 10 3 x (some (x + 5))) 3 0 (x + 5) = some (x + 6) := ((u4.1 (x + 5) (by omega)).2.1 3 0).trans q4.1
  have fb : ∀ i, i < 12 → gq (gsr k4 10 3 x (some (x + 5))) (x + 6) i = some (x + 7 + 32 * i) := fun i hi => by rw [(u4.1 (x + 6) (by omega)).2.2.2.1]; exact q4.2.2.1 i hi
  have fd : ∀ i, i < 12 → FS t4 (gsr k4 10 3 x (some (x + 5))) (x + 7 + 32 * i) := fun i hi => FS.up (s := x + 7 + 32 * i) (q4.2.2.2.1 i hi) u4 (fun b c1 c2 e => by have e : b = x := e; omega)
  have fc : ∀ k, gi (gsr k4 10 3 x (some (x + 5))) 3 k (x + 5) = 0 := fun k => by rw [(u4.1 (x + 5) (by omega)).1]; exact q4.2.2.2.2 k
  have f4 : gr (gsr k4 10 3 x (some (x + 5))) 3 0 (x + 5) = some (x + 6) ∧ gn t4 (x + 6) = 12 ∧ (∀ i, i < 12 → gq (gsr k4 10 3 x (some (x + 5))) (x + 6) i = some (x + 7 + 32 * i)) ∧ (∀ i, i < 12 → FS t4 (gsr k4 10 3 x (some (x + 5))) (x + 7 + 32 * i)) ∧ ∀ k, gi (gsr k4 10 3 x (some (x + 5))) 3 k (x + 5) = 0 := ⟨fa, q4.2.1, fb, fd, fc⟩
  clear fa fb fc fd
  clear p4 u4 q4
  generalize gsr k4 10 3 x (some (x + 5)) = g4 at s4 v4 w4 f4 eG
  have hT4 := eT
  have hG4 := eG
  clear eT eG
  obtain ⟨p5, q5⟩ := bo_X6 (τ := t4) (G := g4) (s := x + 391)
  rw [show x + 391 + 1 = x + 392 by omega] at p5
  rw [show x + 391 + 1 = x + 392 by omega, show x + 391 + 4 = x + 395 by omega] at q5
  have eT : iT10_5 (x + 1) t0 = iT_X6_init (x + 392) (gnt t4 (x + 391) 6 0) := by unfold iT10_5; rw [hT4, show x + 1 + 391 = x + 392 by omega, show x + 1 + 390 = x + 391 by omega]
  have eG : iG10_5 (x + 1) x g0 = gsr (iG_X6_init (x + 392) (x + 391) (gnw g4 (x + 391))) 10 4 x (some (x + 391)) := by unfold iG10_5; rw [hG4, show x + 1 + 391 = x + 392 by omega, show x + 1 + 390 = x + 391 by omega]
  generalize iT_X6_init (x + 392) (gnt t4 (x + 391) 6 0) = t5 at p5 q5 eT
  generalize iG_X6_init (x + 392) (x + 391) (gnw g4 (x + 391)) = k5 at p5 q5 eG
  have p5 : BF (fun b => x + 391 ≤ b ∧ b ≤ x + 422) t4 g4 t5 k5 := p5.mono fun b hb => by omega
  obtain ⟨s5, u5, v5, w5⟩ := bo_step (x := x) (j := 4) (v := some (x + 391)) p5 (by omega)
  have f5 : FS (t5) (gsr (k5) 10 4 x (some (x + 391))) (x + 391) ∧ (∀ k, gi (gsr (k5) 10 4 x (some (x + 391))) 6 k (x + 391) = if k = 11 then 1 else 0) ∧ ∀ k, gi (gsr (k5) 10 4 x (some (x + 391))) 0 k (x + 395) = 0 := ⟨FS.up (s := x + 391) q5.1 u5 fun b c1 c2 => by omega, q5.2.1, q5.2.2⟩
  clear p5 u5 q5
  generalize gsr k5 10 4 x (some (x + 391)) = g5 at s5 v5 w5 f5 eG
  have hT5 := eT
  have hG5 := eG
  clear eT eG
  obtain ⟨p6, q6⟩ := bo_X1 (τ := t5) (G := g5) (l := x + 423)
  rw [show x + 423 + 1 = x + 424 by omega] at p6
  rw [show x + 423 + 1 = x + 424 by omega] at q6
  have eT : iT10_6 (x + 1) t0 = iT_X1_init (x + 424) (gnt t5 (x + 423) 1 0) := by unfold iT10_6; rw [hT5, show x + 1 + 423 = x + 424 by omega, show x + 1 + 422 = x + 423 by omega]
  have eG : iG10_6 (x + 1) x g0 = gsr (iG_X1_init (x + 424) (x + 423) (gnw g5 (x + 423))) 10 5 x (some (x + 423)) := by unfold iG10_6; rw [hG5, show x + 1 + 423 = x + 424 by omega, show x + 1 + 422 = x + 423 by omega]
  generalize iT_X1_init (x + 424) (gnt t5 (x + 423) 1 0) = t6 at p6 q6 eT
  generalize iG_X1_init (x + 424) (x + 423) (gnw g5 (x + 423)) = k6 at p6 q6 eG
  have p6 : BF (fun b => x + 423 ≤ b ∧ b ≤ x + 429) t5 g5 t6 k6 := p6.mono fun b hb => by omega
  obtain ⟨s6, u6, v6, w6⟩ := bo_step (x := x) (j := 5) (v := some (x + 423)) p6 (by omega)
  have f6 : FL (t6) (gsr (k6) 10 5 x (some (x + 423))) (x + 423) ∧ ∀ k, gi (gsr (k6) 10 5 x (some (x + 423))) 1 k (x + 423) = 0 := ⟨FL.up (l := x + 423) q6.1 u6 fun b c1 c2 => by omega, q6.2⟩
  clear p6 u6 q6
  generalize gsr k6 10 5 x (some (x + 423)) = g6 at s6 v6 w6 f6 eG
  have hT6 := eT
  have hG6 := eG
  clear eT eG
  have p7 := bo_X5 (τ := t6) (G := g6) (a := x + 430)
  rw [show x + 430 + 1 = x + 431 by omega] at p7
  have eT : iT10_7 (x + 1) t0 = iT_X5_init (x + 431) (gnt t6 (x + 430) 5 0) := by unfold iT10_7; rw [hT6, show x + 1 + 430 = x + 431 by omega, show x + 1 + 429 = x + 430 by omega]
  have eG : iG10_7 (x + 1) x g0 = gsr (iG_X5_init (x + 431) (x + 430) (gnw g6 (x + 430))) 10 6 x (some (x + 430)) := by unfold iG10_7; rw [hG6, show x + 1 + 430 = x + 431 by omega, show x + 1 + 429 = x + 430 by omega]
  generalize iT_X5_init (x + 431) (gnt t6 (x + 430) 5 0) = t7 at p7 eT
  generalize iG_X5_init (x + 431) (x + 430) (gnw g6 (x + 430)) = k7 at p7 eG
  have p7 : BF (fun b => x + 430 ≤ b ∧ b ≤ x + 430) t6 g6 t7 k7 := p7.mono fun b hb => by omega
  obtain ⟨s7, u7, v7, w7⟩ := bo_step (x := x) (j := 6) (v := some (x + 430)) p7 (by omega)
  clear p7 u7
  generalize gsr k7 10 6 x (some (x + 430)) = g7 at s7 v7 w7 eG
  have hT7 := eT
  have hG7 := eG
  clear eT eG
  obtain ⟨p8, q8⟩ := bo_ar (τ := t7) (G := g7) (a := x + 431) (n := 256)
  have eT : iT10_8 (x + 1) t0 = gnt t7 (x + 431) 13 256 := by unfold iT10_8; rw [hT7, show x + 1 + 430 = x + 431 by omega]
  have eG : iG10_8 (x + 1) x g0 = gsr (gnw g7 (x + 431)) 10 7 x (some (x + 431)) := by unfold iG10_8; rw [hG7, show x + 1 + 430 = x + 431 by omega]
  generalize gnt t7 (x + 431) 13 256 = t8 at p8 q8 eT
  generalize gnw g7 (x + 431) = k8 at p8 eG
  have p8 : BF (fun b => x + 431 ≤ b ∧ b ≤ x + 431) t7 g7 t8 k8 := p8.mono fun b hb => by omega
  obtain ⟨s8, u8, v8, w8⟩ := bo_step (x := x) (j := 7) (v := some (x + 431)) p8 (by omega)
  have f8 : gn (t8) (x + 431) = 256 := q8
  clear p8 u8 q8
  generalize gsr k8 10 7 x (some (x + 431)) = g8 at s8 v8 w8 eG
  have hT8 := eT
  have hG8 := eG
  clear eT eG
  obtain ⟨p9, q9⟩ := bo_ar (τ := t8) (G := g8) (a := x + 432) (n := 256)
  have eT : iT10_9 (x + 1) t0 = gnt t8 (x + 432) 13 256 := by unfold iT10_9; rw [hT8, show x + 1 + 431 = x + 432 by omega]
  have eG : iG10_9 (x + 1) x g0 = gsr (gnw g8 (x + 432)) 10 8 x (some (x + 432)) := by unfold iG10_9; rw [hG8, show x + 1 + 431 = x + 432 by omega]
  generalize gnt t8 (x + 432) 13 256 = t9 at p9 q9 eT
  generalize gnw g8 (x + 432) = k9 at p9 eG
  have p9 : BF (fun b => x + 432 ≤ b ∧ b ≤ x + 432) t8 g8 t9 k9 := p9.mono fun b hb => by omega
  obtain ⟨s9, u9, v9, w9⟩ := bo_step (x := x) (j := 8) (v := some (x + 432)) p9 (by omega)
  have f9 : gn (t9) (x + 432) = 256 := q9
  clear p9 u9 q9
  generalize gsr k9 10 8 x (some (x + 432)) = g9 at s9 v9 w9 eG
  have hT9 := eT
  have hG9 := eG
  clear eT eG
  obtain ⟨p10, q10⟩ := bo_ar (τ := t9) (G := g9) (a := x + 433) (n := 10)
  have eT : iT10_10 (x + 1) t0 = gnt t9 (x + 433) 13 10 := by unfold iT10_10; rw [hT9, show x + 1 + 432 = x + 433 by omega]
  have eG : iG10_10 (x + 1) x g0 = gsr (gnw g9 (x + 433)) 10 9 x (some (x + 433)) := by unfold iG10_10; rw [hG9, show x + 1 + 432 = x + 433 by omega]
  generalize gnt t9 (x + 433) 13 10 = t10 at p10 q10 eT
  generalize gnw g9 (x + 433) = k10 at p10 eG
  have p10 : BF (fun b => x + 433 ≤ b ∧ b ≤ x + 433) t9 g9 t10 k10 := p10.mono fun b hb => by omega
  obtain ⟨s10, u10, v10, w10⟩ := bo_step (x := x) (j := 9) (v := some (x + 433)) p10 (by omega)
  have f10 : gn (t10) (x + 433) = 10 := q10
  clear p10 u10 q10
  generalize gsr k10 10 9 x (some (x + 433)) = g10 at s10 v10 w10 eG
  have hT10 := eT
  have hG10 := eG
  clear eT eG
  obtain ⟨p11, q11⟩ := bo_X6 (τ := t10) (G := g10) (s := x + 434)
  rw [show x + 434 + 1 = x + 435 by omega] at p11
  rw [show x + 434 + 1 = x + 435 by omega, show x + 434 + 4 = x + 438 by omega] at q11
  have eT : iT10_11 (x + 1) t0 = iT_X6_init (x + 435) (gnt t10 (x + 434) 6 0) := by unfold iT10_11; rw [hT10, show x + 1 + 434 = x + 435 by omega, show x + 1 + 433 = x + 434 by omega]
  have eG : iG10_11 (x + 1) x g0 = gsr (iG_X6_init (x + 435) (x + 434) (gnw g10 (x + 434))) 10 10 x (some (x + 434)) := by unfold iG10_11; rw [hG10, show x + 1 + 434 = x + 435 by omega, show x + 1 + 433 = x + 434 by omega]
  generalize iT_X6_init (x + 435) (gnt t10 (x + 434) 6 0) = t11 at p11 q11 eT
  generalize iG_X6_init (x + 435) (x + 434) (gnw g10 (x + 434)) = k11 at p11 q11 eG
  have p11 : BF (fun b => x + 434 ≤ b ∧ b ≤ x + 465) t10 g10 t11 k11 := p11.mono fun b hb => by omega
  obtain ⟨s11, u11, v11, w11⟩ := bo_step (x := x) (j := 10) (v := some (x + 434)) p11 (by omega)
  have f11 : FS (t11) (gsr (k11) 10 10 x (some (x + 434))) (x + 434) ∧ (∀ k, gi (gsr (k11) 10 10 x (some (x + 434))) 6 k (x + 434) = if k = 11 then 1 else 0) ∧ ∀ k, gi (gsr (k11) 10 10 x (some (x + 434))) 0 k (x + 438) = 0 := ⟨FS.up (s := x + 434) q11.1 u11 fun b c1 c2 => by omega, q11.2.1, q11.2.2⟩
  clear p11 u11 q11
  generalize gsr k11 10 10 x (some (x + 434)) = g11 at s11 v11 w11 f11 eG
  have hT11 := eT
  have hG11 := eG
  clear eT eG
  obtain ⟨p12, q12⟩ := bo_X6 (τ := t11) (G := g11) (s := x + 466)
  rw [show x + 466 + 1 = x + 467 by omega] at p12
  rw [show x + 466 + 1 = x + 467 by omega, show x + 466 + 4 = x + 470 by omega] at q12
  have eT : iT10_12 (x + 1) t0 = iT_X6_init (x + 467) (gnt t11 (x + 466) 6 0) := by unfold iT10_12; rw [hT11, show x + 1 + 466 = x + 467 by omega, show x + 1 + 465 = x + 466 by omega]
  have eG : iG10_12 (x + 1) x g0 = gsr (iG_X6_init (x + 467) (x + 466) (gnw g11 (x + 466))) 10 11 x (some (x + 466)) := by unfold iG10_12; rw [hG11, show x + 1 + 466 = x + 467 by omega, show x + 1 + 465 = x + 466 by omega]
  generalize iT_X6_init (x + 467) (gnt t11 (x + 466) 6 0) = t12 at p12 q12 eT
  generalize iG_X6_init (x + 467) (x + 466) (gnw g11 (x + 466)) = k12 at p12 q12 eG
  have p12 : BF (fun b => x + 466 ≤ b ∧ b ≤ x + 497) t11 g11 t12 k12 := p12.mono fun b hb => by omega
  obtain ⟨s12, u12, v12, w12⟩ := bo_step (x := x) (j := 11) (v := some (x + 466)) p12 (by omega)
  have f12 : FS (t12) (gsr (k12) 10 11 x (some (x + 466))) (x + 466) ∧ (∀ k, gi (gsr (k12) 10 11 x (some (x + 466))) 6 k (x + 466) = if k = 11 then 1 else 0) ∧ ∀ k, gi (gsr (k12) 10 11 x (some (x + 466))) 0 k (x + 470) = 0 := ⟨FS.up (s := x + 466) q12.1 u12 fun b c1 c2 => by omega, q12.2.1, q12.2.2⟩
  clear p12 u12 q12
  generalize gsr k12 10 11 x (some (x + 466)) = g12 at s12 v12 w12 f12 eG
  have hT12 := eT
  have hG12 := eG
  clear eT eG
  obtain ⟨p13, q13⟩ := bo_X1 (τ := t12) (G := g12) (l := x + 498)
  rw [show x + 498 + 1 = x + 499 by omega] at p13
  rw [show x + 498 + 1 = x + 499 by omega] at q13
  have eT : iT10_13 (x + 1) t0 = iT_X1_init (x + 499) (gnt t12 (x + 498) 1 0) := by unfold iT10_13; rw [hT12, show x + 1 + 498 = x + 499 by omega, show x + 1 + 497 = x + 498 by omega]
  have eG : iG10_13 (x + 1) x g0 = gsr (iG_X1_init (x + 499) (x + 498) (gnw g12 (x + 498))) 10 12 x (some (x + 498)) := by unfold iG10_13; rw [hG12, show x + 1 + 498 = x + 499 by omega, show x + 1 + 497 = x + 498 by omega]
  generalize iT_X1_init (x + 499) (gnt t12 (x + 498) 1 0) = t13 at p13 q13 eT
  generalize iG_X1_init (x + 499) (x + 498) (gnw g12 (x + 498)) = k13 at p13 q13 eG
  have p13 : BF (fun b => x + 498 ≤ b ∧ b ≤ x + 504) t12 g12 t13 k13 := p13.mono fun b hb => by omega
  obtain ⟨s13, u13, v13, w13⟩ := bo_step (x := x) (j := 12) (v := some (x + 498)) p13 (by omega)
  have f13 : FL (t13) (gsr (k13) 10 12 x (some (x + 498))) (x + 498) ∧ ∀ k, gi (gsr (k13) 10 12 x (some (x + 498))) 1 k (x + 498) = 0 := ⟨FL.up (l := x + 498) q13.1 u13 fun b c1 c2 => by omega, q13.2⟩
  clear p13 u13 q13
  generalize gsr k13 10 12 x (some (x + 498)) = g13 at s13 v13 w13 f13 eG
  have hT13 := eT
  have hG13 := eG
  clear eT eG
  obtain ⟨p14, q14⟩ := bo_X1 (τ := t13) (G := g13) (l := x + 505)
  rw [show x + 505 + 1 = x + 506 by omega] at p14
  rw [show x + 505 + 1 = x + 506 by omega] at q14
  have eT : iT10_14 (x + 1) t0 = iT_X1_init (x + 506) (gnt t13 (x + 505) 1 0) := by unfold iT10_14; rw [hT13, show x + 1 + 505 = x + 506 by omega, show x + 1 + 504 = x + 505 by omega]
  have eG : iG10_14 (x + 1) x g0 = gsr (iG_X1_init (x + 506) (x + 505) (gnw g13 (x + 505))) 10 13 x (some (x + 505)) := by unfold iG10_14; rw [hG13, show x + 1 + 505 = x + 506 by omega, show x + 1 + 504 = x + 505 by omega]
  generalize iT_X1_init (x + 506) (gnt t13 (x + 505) 1 0) = t14 at p14 q14 eT
  generalize iG_X1_init (x + 506) (x + 505) (gnw g13 (x + 505)) = k14 at p14 q14 eG
  have p14 : BF (fun b => x + 505 ≤ b ∧ b ≤ x + 511) t13 g13 t14 k14 := p14.mono fun b hb => by omega
  obtain ⟨s14, u14, v14, w14⟩ := bo_step (x := x) (j := 13) (v := some (x + 505)) p14 (by omega)
  have f14 : FL (t14) (gsr (k14) 10 13 x (some (x + 505))) (x + 505) ∧ ∀ k, gi (gsr (k14) 10 13 x (some (x + 505))) 1 k (x + 505) = 0 := ⟨FL.up (l := x + 505) q14.1 u14 fun b c1 c2 => by omega, q14.2⟩
  clear p14 u14 q14
  generalize gsr k14 10 13 x (some (x + 505)) = g14 at s14 v14 w14 f14 eG
  have hT14 := eT
  have hG14 := eG
  clear eT eG
  rw [hT14, hG14]
  have D14 : BF (fun b => b = x ∨ x + 512 ≤ b) t14 g14 t14 g14 := BF.rf
  have D13 : BF (fun b => b = x ∨ x + 505 ≤ b) t13 g13 t14 g14 := (s14.mono fun b hb => by omega).tr (D14.mono fun b hb => by omega)
  have D12 : BF (fun b => b = x ∨ x + 498 ≤ b) t12 g12 t14 g14 := (s13.mono fun b hb => by omega).tr (D13.mono fun b hb => by omega)
  have D11 : BF (fun b => b = x ∨ x + 466 ≤ b) t11 g11 t14 g14 := (s12.mono fun b hb => by omega).tr (D12.mono fun b hb => by omega)
  have D10 : BF (fun b => b = x ∨ x + 434 ≤ b) t10 g10 t14 g14 := (s11.mono fun b hb => by omega).tr (D11.mono fun b hb => by omega)
  have D9 : BF (fun b => b = x ∨ x + 433 ≤ b) t9 g9 t14 g14 := (s10.mono fun b hb => by omega).tr (D10.mono fun b hb => by omega)
  have D8 : BF (fun b => b = x ∨ x + 432 ≤ b) t8 g8 t14 g14 := (s9.mono fun b hb => by omega).tr (D9.mono fun b hb => by omega)
  have D7 : BF (fun b => b = x ∨ x + 431 ≤ b) t7 g7 t14 g14 := (s8.mono fun b hb => by omega).tr (D8.mono fun b hb => by omega)
  have D6 : BF (fun b => b = x ∨ x + 430 ≤ b) t6 g6 t14 g14 := (s7.mono fun b hb => by omega).tr (D7.mono fun b hb => by omega)
  have D5 : BF (fun b => b = x ∨ x + 423 ≤ b) t5 g5 t14 g14 := (s6.mono fun b hb => by omega).tr (D6.mono fun b hb => by omega)
  have D4 : BF (fun b => b = x ∨ x + 391 ≤ b) t4 g4 t14 g14 := (s5.mono fun b hb => by omega).tr (D5.mono fun b hb => by omega)
  have D3 : BF (fun b => b = x ∨ x + 5 ≤ b) t3 g3 t14 g14 := (s4.mono fun b hb => by omega).tr (D4.mono fun b hb => by omega)
  have D2 : BF (fun b => b = x ∨ x + 4 ≤ b) t2 g2 t14 g14 := (s3.mono fun b hb => by omega).tr (D3.mono fun b hb => by omega)
  have D1 : BF (fun b => b = x ∨ x + 3 ≤ b) t1 g1 t14 g14 := (s2.mono fun b hb => by omega).tr (D2.mono fun b hb => by omega)
  have D0 : BF (fun b => b = x ∨ x + 1 ≤ b) t0 g0 t14 g14 := (s1.mono fun b hb => by omega).tr (D1.mono fun b hb => by omega)
  have hA : BF (fun b => x ≤ b ∧ b ≤ x + 511) t0 g0 t14 g14 := ((((((((((((((s1.mono fun b hb => by omega).tr (s2.mono fun b hb => by omega)).tr (s3.mono fun b hb => by omega)).tr (s4.mono fun b hb => by omega)).tr (s5.mono fun b hb => by omega)).tr (s6.mono fun b hb => by omega)).tr (s7.mono fun b hb => by omega)).tr (s8.mono fun b hb => by omega)).tr (s9.mono fun b hb => by omega)).tr (s10.mono fun b hb => by omega)).tr (s11.mono fun b hb => by omega)).tr (s12.mono fun b hb => by omega)).tr (s13.mono fun b hb => by omega)).tr (s14.mono fun b hb => by omega))
  have R : ∀ k, gr g14 10 k x = if k = 13 then some (x + 505) else if k = 12 then some (x + 498) else if k = 11 then some (x + 466) else if k = 10 then some (x + 434) else if k = 9 then some (x + 433) else if k = 8 then some (x + 432) else if k = 7 then some (x + 431) else if k = 6 then some (x + 430) else if k = 5 then some (x + 423) else if k = 4 then some (x + 391) else if k = 3 then some (x + 5) else if k = 2 then some (x + 4) else if k = 1 then some (x + 3) else if k = 0 then some (x + 1) else gr g0 10 k x := fun k => by
    rw [w14, w13, w12, w11, w10, w9, w8, w7, w6, w5, w4, w3, w2, w1]
  have Z : ∀ k, gi g14 10 k x = 0 := fun k => by rw [v14, v13, v12, v11, v10, v9, v8, v7, v6, v5, v4, v3, v2, v1]; exact z0 k
  refine ⟨h0.tr hA, ⟨⟨?_, ?_, ?_, ?_, ?_, ?_, ?_, ?_, ?_, ?_, ?_, ?_, ?_, ?_⟩, ⟨?_, ?_, ?_, ?_⟩, ⟨?_, ?_, ?_, ?_, ?_⟩, fun k hk => ?_, ⟨?_, ?_, ?_, fun k hk => ?_⟩, ⟨?_, ?_, ?_⟩, Or.inl ⟨rfl, rfl⟩, Or.inl ⟨rfl, rfl⟩⟩, Z, ⟨?_, ?_⟩, fun k => ?_, ⟨fun k => ?_, fun k => ?_⟩, fun k => ?_⟩
  · rw [R]; rfl
  · rw [R]; rfl
  · rw [R]; rfl
  · rw [R]; rfl
  · rw [R]; rfl
  · rw [R]; rfl
  · rw [R]; rfl
  · rw [R]; rfl
  · rw [R]; rfl
  · rw [R]; rfl
  · rw [R]; rfl
  · rw [R]; rfl
  · rw [R]; rfl
  · rw [R]; rfl
  · rw [(D1.1 (x + 1) (by omega)).2.1]; exact f1.1
  · rw [(D2.1 (x + 3) (by omega)).2.1]; exact f2
  · rw [(D3.1 (x + 4) (by omega)).2.1]; exact f3
  · rw [(D4.1 (x + 5) (by omega)).2.1]; exact f4.1
  · rw [gn_at2 (D1.2 (x + 2) (by omega))]; exact f1.2.1
  · rw [gn_at2 (D4.2 (x + 6) (by omega))]; exact f4.2.1
  · rw [gn_at2 (D8.2 (x + 431) (by omega))]; exact f8
  · rw [gn_at2 (D9.2 (x + 432) (by omega))]; exact f9
  · rw [gn_at2 (D10.2 (x + 433) (by omega))]; exact f10
  · rw [(D4.1 (x + 6) (by omega)).2.2.2.1]; exact f4.2.2.1 k hk
  · exact f11.1.up D11 fun b c1 c2 => by omega
  · exact f12.1.up D12 fun b c1 c2 => by omega
  · exact f5.1.up D5 fun b c1 c2 => by omega
  · exact (f4.2.2.2.1 k hk).up D4 fun b c1 c2 => by omega
  · exact f6.1.up D6 fun b c1 c2 => by omega
  · exact f13.1.up D13 fun b c1 c2 => by omega
  · exact f14.1
  · rw [(D1.1 (x + 1) (by omega)).1]; exact f1.2.2.1
  · rw [(D1.1 (x + 1) (by omega)).1]; exact f1.2.2.2
  · rw [(D4.1 (x + 5) (by omega)).1]; exact f4.2.2.2.2 k
  · rw [(D11.1 (x + 434) (by omega)).1]; exact f11.2.1 k
  · rw [(D11.1 (x + 438) (by omega)).1]; exact f11.2.2 k
  · rw [(D13.1 (x + 498) (by omega)).1]; exact f13.2 k
end

