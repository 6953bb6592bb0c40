/-! BEHIND THE CONSTRUCTORS: the law's rows, the tape, what is remembered -/
section
variable {τ τ' τ1 : gτ} {G G' G1 : gG} {a b x y z s l m κ n c k i lo hi : Nat} {A B : Nat → Prop}
theorem bo_ref1 {κ' k' v : Nat} (h : ∀ j, j < k' → gr G 1 j l = some (l + 1 + j)) (hv : v = l + 1 + k') : ∀ j, j < k' + 1 → gr (gsr (gnw G v) 1 k' l (some v)) 1 j l = some (l + 1 + j) := fun j hj => by
  rw [ka_rr]
  by_cases e : j = k'
  · rw [if_pos ⟨rfl, e, rfl⟩, hv, e]
  · rw [if_neg (fun h => e h.2.1), bo_rn, if_neg (by omega)]
    exact h j (by omega)
theorem bo_X1 : BF (fun b => l ≤ b ∧ b ≤ l + 6) τ G (iT_X1_init (l + 1) (gnt τ l 1 0)) (iG_X1_init (l + 1) l (gnw G l)) ∧ FL (iT_X1_init (l + 1) (gnt τ l 1 0)) (iG_X1_init (l + 1) l (gnw G l)) l ∧ ∀ k, gi (iG_X1_init (l + 1) l (gnw G l)) 1 k l = 0 := by
  have h0 : BF (fun b => l ≤ b ∧ b ≤ l + 6) τ G (gnt τ l 1 0) (gnw G l) := BF.nw (by omega)
  have z0 : ∀ k, gi (gnw G l) 1 k l = 0 := fun k => by rw [bo_in, if_pos rfl]
  generalize gnt τ l 1 0 = τ0 at h0
  generalize gnw G l = G0 at h0 z0
  have st : ∀ {τ1 : gτ} {G1 : gG} {v j N : Nat}, l + 1 ≤ v → v ≤ l + 6 → BF (fun b => l ≤ b ∧ b ≤ l + 6) τ G τ1 G1 → (∀ k, gi G1 1 k l = 0) → BF (fun b => l ≤ b ∧ b ≤ l + 6) τ G (gnt τ1 v 13 N) (gsr (gnw G1 v) 1 j l (some v)) ∧ ∀ k, gi (gsr (gnw G1 v) 1 j l (some v)) 1 k l = 0 := fun {τ1 G1 v j N} h1 h2 h3 h4 => by
    refine ⟨h3.tr ⟨(bo_fn (by omega)).tr (Fr.r (by omega)), fun b hb => ?_⟩, fun k => ?_⟩
    · unfold gnt; rw [if_neg (by omega)]
    · rw [ka_ir, bo_in, if_neg (by omega)]; exact h4 k
  have q0 : ∀ j, j < 0 → gr G0 1 j l = some (l + 1 + j) := fun j hj => absurd hj (Nat.not_lt_zero j)
  obtain ⟨s1, y1⟩ := st (v := l + 1) (j := 0) (N := 12) (by omega) (by omega) h0 z0
  have q1 := bo_ref1 (κ' := 0) (v := l + 1) q0 rfl
  obtain ⟨s2, y2⟩ := st (v := l + 2) (j := 1) (N := 12) (by omega) (by omega) s1 y1
  have q2 := bo_ref1 (κ' := 0) (v := l + 2) q1 rfl
  obtain ⟨s3, y3⟩ := st (v := l + 3) (j := 2) (N := 12) (by omega) (by omega) s2 y2
  have q3 := bo_ref1 (κ' := 0) (v := l + 3) q2 rfl
  obtain ⟨s4, y4⟩ := st (v := l + 4) (j := 3) (N := 400) (by omega) (by omega) s3 y3
  have q4 := bo_ref1 (κ' := 0) (v := l + 4) q3 rfl
  obtain ⟨s5, y5⟩ := st (v := l + 5) (j := 4) (N := 11) (by omega) (by omega) s4 y4
  have q5 := bo_ref1 (κ' := 0) (v := l + 5) q4 rfl
  obtain ⟨s6, y6⟩ := st (v := l + 6) (j := 5) (N := 32) (by omega) (by omega) s5 y5
  have q6 := bo_ref1 (κ' := 0) (v := l + 6) q5 rfl
  have nn : gn (gnt (gnt (gnt (gnt (gnt (gnt τ0 (l + 1) 13 12) (l + 2) 13 12) (l + 3) 13 12) (l + 4) 13 400) (l + 5) 13 11) (l + 6) 13 32) (l + 1) = 12 ∧ gn (gnt (gnt (gnt (gnt (gnt (gnt τ0 (l + 1) 13 12) (l + 2) 13 12) (l + 3) 13 12) (l + 4) 13 400) (l + 5) 13 11) (l + 6) 13 32) (l + 2) = 12 ∧ gn (gnt (gnt (gnt (gnt (gnt (gnt τ0 (l + 1) 13 12) (l + 2) 13 12) (l + 3) 13 12) (l + 4) 13 400) (l + 5) 13 11) (l + 6) 13 32) (l + 3) = 12 ∧ gn (gnt (gnt (gnt (gnt (gnt (gnt τ0 (l + 1) 13 12) (l + 2) 13 12) (l + 3) 13 12) (l + 4) 13 400) (l + 5) 13 11) (l + 6) 13 32) (l + 4) = 400 ∧ gn (gnt (gnt (gnt (gnt (gnt (gnt τ0 (l + 1) 13 12) (l + 2) 13 12) (l + 3) 13 12) (l + 4) 13 400) (l + 5) 13 11) (l + 6) 13 32) (l + 5) = 11 ∧ gn (gnt (gnt (gnt (gnt (gnt (gnt τ0 (l + 1) 13 12) (l + 2) 13 12) (l + 3) 13 12) (l + 4) 13 400) (l + 5) 13 11) (l + 6) 13 32) (l + 6) = 32 := by
    refine ⟨?_, ?_, ?_, ?_, ?_, gn_new⟩
    · rw [gn_ne (by omega), gn_ne (by omega), gn_ne (by omega), gn_ne (by omega), gn_ne (by omega)]; exact gn_new
    · rw [gn_ne (by omega), gn_ne (by omega), gn_ne (by omega), gn_ne (by omega)]; exact gn_new
    · rw [gn_ne (by omega), gn_ne (by omega), gn_ne (by omega)]; exact gn_new
    · rw [gn_ne (by omega), gn_ne (by omega)]; exact gn_new
    · rw [gn_ne (by omega)]; exact gn_new
  exact ⟨s6, ⟨⟨q6 0 (by decide), q6 1 (by decide), q6 2 (by decide), q6 3 (by decide), q6 4 (by decide), q6 5 (by decide)⟩, nn⟩, y6⟩
theorem bo_X7 : BF (fun b => a ≤ b ∧ b ≤ a + 1) τ G (iT_X7_init (a + 1) (gnt τ a 7 0)) (iG_X7_init (a + 1) a (gnw G a)) ∧ gr (iG_X7_init (a + 1) a (gnw G a)) 7 0 a = some (a + 1) ∧ gn (iT_X7_init (a + 1) (gnt τ a 7 0)) (a + 1) = 400 ∧ gi (iG_X7_init (a + 1) a (gnw G a)) 7 1 a = 0 ∧ gi (iG_X7_init (a + 1) a (gnw G a)) 7 2 a = -1 := by
  unfold iT_X7_init iG_X7_init
  refine ⟨⟨(((bo_fn (by omega)).tr (bo_fn (by omega))).tr (Fr.r (by omega))).tr (Fr.i (by omega)), fun b hb => ?_⟩, ?_, gn_new, ?_, ?_⟩
  · unfold gnt; rw [if_neg (by omega), if_neg (by omega)]
  · rw [ka_ri, ka_rr, if_pos ⟨rfl, rfl, rfl⟩]
  · rw [ka_ii, if_neg (fun h => absurd h.2.1 (by decide)), ka_ir, bo_in, if_neg (by omega), bo_in, if_pos rfl]
  · rw [ka_ii, if_pos ⟨rfl, rfl, rfl⟩]
theorem bo_X8 : BF (fun b => a ≤ b ∧ b ≤ a) τ G (iT_X8_init (a + 1) (gnt τ a 8 0)) (iG_X8_init (a + 1) a y (gnw G a)) ∧ gr (iG_X8_init (a + 1) a y (gnw G a)) 8 0 a = some y := by
  unfold iT_X8_init iG_X8_init
  refine ⟨⟨(bo_fn (by omega)).tr (Fr.r (by omega)), fun b hb => ?_⟩, ?_⟩
  · unfold gnt; rw [if_neg (by omega)]
  · rw [ka_rr, if_pos ⟨rfl, rfl, rfl⟩]
theorem bo_X2 : BF (fun b => a ≤ b ∧ b ≤ a) τ G (iT_X2_init (a + 1) (gnt τ a 2 0)) (iG_X2_init (a + 1) a y (gnw G a)) ∧ gr (iG_X2_init (a + 1) a y (gnw G a)) 2 0 a = some y := by
  unfold iT_X2_init iG_X2_init
  refine ⟨⟨(bo_fn (by omega)).tr (Fr.r (by omega)), fun b hb => ?_⟩, ?_⟩
  · unfold gnt; rw [if_neg (by omega)]
  · rw [ka_rr, if_pos ⟨rfl, rfl, rfl⟩]
theorem bo_X5 : BF (fun b => a ≤ b ∧ b ≤ a) τ G (iT_X5_init (a + 1) (gnt τ a 5 0)) (iG_X5_init (a + 1) a (gnw G a)) := by
  unfold iT_X5_init iG_X5_init
  exact BF.nw (by omega)
theorem bo_ar : BF (fun b => a ≤ b ∧ b ≤ a) τ G (gnt τ a 13 n) (gnw G a) ∧ gn (gnt τ a 13 n) a = n := ⟨BF.nw (by omega), gn_new⟩
/-- Sheds in a row -/
theorem bo_m (ha : a < z) : ∀ k, BF (fun b => b = a ∨ (z ≤ b ∧ b < z + 32 * k)) τ G (mT τ z k) (mG G z a k) ∧ (∀ i, i < k → gq (mG G z a k) a i = some (z + 32 * i)) ∧ ∀ i, i < k → FS (mT τ z k) (mG G z a k) (z + 32 * i) := by
  intro k
  induction k with
  | zero => exact ⟨BF.rf, fun i hi => absurd hi (Nat.not_lt_zero _), fun i hi => absurd hi (Nat.not_lt_zero _)⟩
  | succ k ih =>
    obtain ⟨h1, h2, h3⟩ := ih
    obtain ⟨g1, g2, -, -⟩ := bo_X6 (τ := mT τ z k) (G := mG G z a k) (s := z + 32 * k)
    show BF (fun b => b = a ∨ (z ≤ b ∧ b < z + 32 * (k + 1))) τ G (iT_X6_init (z + 32 * k + 1) (gnt (mT τ z k) (z + 32 * k) 6 0)) (gsq (iG_X6_init (z + 32 * k + 1) (z + 32 * k) (gnw (mG G z a k) (z + 32 * k))) a k (some (z + 32 * k))) ∧ (∀ i, i < k + 1 → gq (gsq (iG_X6_init (z + 32 * k + 1) (z + 32 * k) (gnw (mG G z a k) (z + 32 * k))) a k (some (z + 32 * k))) a i = some (z + 32 * i)) ∧ ∀ i, i < k + 1 → FS (iT_X6_init (z + 32 * k + 1) (gnt (mT τ z k) (z + 32 * k) 6 0)) (gsq (iG_X6_init (z + 32 * k + 1) (z + 32 * k) (gnw (mG G z a k) (z + 32 * k))) a k (some (z + 32 * k))) (z + 32 * i)
    generalize iT_X6_init (z + 32 * k + 1) (gnt (mT τ z k) (z + 32 * k) 6 0) = τ2 at g1 g2
    generalize iG_X6_init (z + 32 * k + 1) (z + 32 * k) (gnw (mG G z a k) (z + 32 * k)) = G2 at g1 g2
    have hq : BF (fun b => b = a) τ2 G2 τ2 (gsq G2 a k (some (z + 32 * k))) := ⟨bo_fq rfl, fun _ _ => rfl⟩
    refine ⟨((h1.mono fun b hb => by omega).tr (g1.mono fun b hb => by omega)).tr (hq.mono fun b hb => Or.inl hb), fun i hi => ?_, fun i hi => ?_⟩
    · rw [bo_qq]
      by_cases hik : i = k
      · rw [if_pos ⟨rfl, hik⟩, hik]
      · rw [if_neg (fun e => hik e.2), (g1.1 a (by omega)).2.2.2.1]
        exact h2 i (by omega)
    · by_cases hik : i = k
      · rw [hik]
        exact g2.up hq fun b c1 c2 => by omega
      · exact ((h3 i (by omega)).up g1 fun b c1 c2 => by omega).up hq fun b c1 c2 => by omega
theorem bo_X3 : BF (fun b => a ≤ b ∧ b ≤ a + 385) τ G (iT_X3_init (a + 1) (gnt τ a 3 0)) (iG_X3_init (a + 1) a (gnw G a)) ∧ gr (iG_X3_init (a + 1) a (gnw G a)) 3 0 a = some (a + 1) ∧ gn (iT_X3_init (a + 1) (gnt τ a 3 0)) (a + 1) = 12 ∧ (∀ i, i < 12 → gq (iG_X3_init (a + 1) a (gnw G a)) (a + 1) i = some (a + 2 + 32 * i)) ∧ (∀ i, i < 12 → FS (iT_X3_init (a + 1) (gnt τ a 3 0)) (iG_X3_init (a + 1) a (gnw G a)) (a + 2 + 32 * i)) ∧ ∀ k, gi (iG_X3_init (a + 1) a (gnw G a)) 3 k a = 0 := by
  have h0 : BF (fun b => a ≤ b ∧ b ≤ a + 385) τ G (gnt (gnt τ a 3 0) (a + 1) 16 12) (gsr (gnw (gnw G a) (a + 1)) 3 0 a (some (a + 1))) := by
    refine ⟨((bo_fn (by omega)).tr (bo_fn (by omega))).tr (Fr.r (by omega)), fun b hb => ?_⟩
    unfold gnt; rw [if_neg (by omega), if_neg (by omega)]
  have r0 : gr (gsr (gnw (gnw G a) (a + 1)) 3 0 a (some (a + 1))) 3 0 a = some (a + 1) := by rw [ka_rr, if_pos ⟨rfl, rfl, rfl⟩]
  have n0 : gn (gnt (gnt τ a 3 0) (a + 1) 16 12) (a + 1) = 12 := gn_new
  have z0 : ∀ k, gi (gsr (gnw (gnw G a) (a + 1)) 3 0 a (some (a + 1))) 3 k a = 0 := fun k => by rw [ka_ir, bo_in, if_neg (by omega), bo_in, if_pos rfl]
  show BF (fun b => a ≤ b ∧ b ≤ a + 385) τ G (mT (gnt (gnt τ a 3 0) (a + 1) 16 12) (a + 2) 12) (mG (gsr (gnw (gnw G a) (a + 1)) 3 0 a (some (a + 1))) (a + 2) (a + 1) 12) ∧ gr (mG (gsr (gnw (gnw G a) (a + 1)) 3 0 a (some (a + 1))) (a + 2) (a + 1) 12) 3 0 a = some (a + 1) ∧ gn (mT (gnt (gnt τ a 3 0) (a + 1) 16 12) (a + 2) 12) (a + 1) = 12 ∧ (∀ i, i < 12 → gq (mG (gsr (gnw (gnw G a) (a + 1)) 3 0 a (some (a + 1))) (a + 2) (a + 1) 12) (a + 1) i = some (a + 2 + 32 * i)) ∧ (∀ i, i < 12 → FS (mT (gnt (gnt τ a 3 0) (a + 1) 16 12) (a + 2) 12) (mG (gsr (gnw (gnw G a) (a + 1)) 3 0 a (some (a + 1))) (a + 2) (a + 1) 12) (a + 2 + 32 * i)) ∧ ∀ k, gi (mG (gsr (gnw (gnw G a) (a + 1)) 3 0 a (some (a + 1))) (a + 2) (a + 1) 12) 3 k a = 0
  generalize gnt (gnt τ a 3 0) (a + 1) 16 12 = τ2 at h0 n0
  generalize gsr (gnw (gnw G a) (a + 1)) 3 0 a (some (a + 1)) = G2 at h0 r0 z0
  obtain ⟨g1, g2, g3⟩ := bo_m (τ := τ2) (G := G2) (a := a + 1) (z := a + 2) (by omega) 12
  have n3 : gn (mT τ2 (a + 2) 12) (a + 1) = 12 := (gn_at2 (mT_eq 12 (a + 1) (by omega))).trans n0
  generalize mT τ2 (a + 2) 12 = τ3 at g1 g3 n3
  generalize mG G2 (a + 2) (a + 1) 12 = G3 at g1 g2 g3
  have ga := g1.1 a (by omega)
  refine ⟨h0.tr (g1.mono fun b hb => by omega), ?_, n3, g2, g3, fun k => ?_⟩
  · rw [ga.2.1]; exact r0
  · rw [ga.1]; exact z0 k
end
