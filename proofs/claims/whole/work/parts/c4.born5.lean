/-! BEHIND THE CONSTRUCTORS: class and reference share a state -/
section
variable {τ τ' : gτ} {G G' : gG} {x m o s t l l' : Nat}
theorem FX.up (h : FX τ G x s t l l') (hf : BF (fun b => x + 512 ≤ b) τ G τ' G') : FX τ' G' x s t l l' := by
  obtain ⟨h1, h2, h3, h4, ⟨f1, f2, f3, f4⟩, ⟨g1, g2, g3⟩, h7, h8⟩ := h
  have q : ∀ b, b ≤ x + 511 → gSame G G' b := fun b hb => hf.1 b (by omega)
  have qt : ∀ b, b ≤ x + 511 → τ' b = τ b := fun b hb => hf.2 b (by omega)
  refine ⟨?_, ?_, ?_, fun k hk => ?_, ⟨f1.up hf fun b c1 c2 => by omega, f2.up hf fun b c1 c2 => by omega, f3.up hf fun b c1 c2 => by omega, fun k hk => (f4 k hk).up hf fun b c1 c2 => by omega⟩, ⟨g1.up hf fun b c1 c2 => by omega, g2.up hf fun b c1 c2 => by omega, g3.up hf fun b c1 c2 => by omega⟩, h7, h8⟩
  · simp only [(q x (by omega)).2.1]; exact h1
  · rw [(q (x + 1) (by omega)).2.1, (q (x + 3) (by omega)).2.1, (q (x + 4) (by omega)).2.1, (q (x + 5) (by omega)).2.1]; exact h2
  · rw [gn_at2 (qt (x + 2) (by omega)), gn_at2 (qt (x + 6) (by omega)), gn_at2 (qt (x + 431) (by omega)), gn_at2 (qt (x + 432) (by omega)), gn_at2 (qt (x + 433) (by omega))]; exact h3
  · rw [(q (x + 6) (by omega)).2.2.2.1]; exact h4 k hk
theorem FM.up (h : FM τ G m) (hf : BF (fun b => m + 11 ≤ b) τ G τ' G') : FM τ' G' m := by
  obtain ⟨h1, a1, a2, a3, a4, a5, a6, a7, a8, a9, a10⟩ := h
  have q : gSame G G' m := hf.1 m (by omega)
  have qt : ∀ b, b ≤ m + 10 → gn τ' b = gn τ b := fun b hb => gn_at2 (hf.2 b (by omega))
  refine ⟨?_, ?_, ?_, ?_, ?_, ?_, ?_, ?_, ?_, ?_, ?_⟩
  · simp only [q.2.1]; exact h1
  · rw [qt _ (by omega)]; exact a1
  · rw [qt _ (by omega)]; exact a2
  · rw [qt _ (by omega)]; exact a3
  · rw [qt _ (by omega)]; exact a4
  · rw [qt _ (by omega)]; exact a5
  · rw [qt _ (by omega)]; exact a6
  · rw [qt _ (by omega)]; exact a7
  · rw [qt _ (by omega)]; exact a8
  · rw [qt _ (by omega)]; exact a9
  · rw [qt _ (by omega)]; exact a10
/-- the world of a new object -/
def w0 : gW := fun j => if j = 12 then 1 else 0
theorem w0_c : cY w0 = 0 ∧ cR w0 = 0 ∧ cO w0 = 0 ∧ cL w0 = 0 := ⟨rfl, rfl, rfl, rfl⟩
theorem bt_z {n : Nat} : bt 0 0 n := ⟨0, Nat.le_refl _, Nat.zero_le _, rfl⟩
theorem w0_wi : WI w0 := by
  obtain ⟨c1, c2, c3, c4⟩ := w0_c
  refine ⟨⟨⟨by rw [c1]; rfl, by rw [c1]; omega⟩, ⟨by rw [c2]; rfl, by rw [c2]; omega⟩, by rw [c3]; rfl, by rw [c3]; omega⟩, ⟨bt_z, bt_z, bt_z, bt_z, bt_z, by rw [c4]; rfl, by rw [c4]; omega⟩, fun i hi => ?_, fun i hi => ?_, fun i hi => ?_⟩
  · rw [c1] at hi; omega
  · rw [c2] at hi; omega
  · rw [c3] at hi; omega
theorem w0_4 : ¬ w0 4 = 1 := by decide
theorem w0_iv : IV w0 none [] [] := ⟨w0_wi, fun h => absurd h w0_4, fun ω' h => (by cases h), ⟨Nat.zero_le _, fun j ω' hj => by simp at hj⟩, Nat.zero_le _, fun b hb => by cases hb⟩
theorem bo_vs (h1 : ∀ k, gi G 6 k s = if k = 11 then 1 else 0) (h2 : ∀ k, gi G 0 k (s + 4) = 0) : VS G s w0 := by
  obtain ⟨c1, c2, c3, c4⟩ := w0_c
  refine ⟨?_, fun i hi => ?_, fun i hi => ?_, fun i hi => ?_, ?_, 0, by omega, h2 2, fun q w hq hw => ?_⟩
  · rw [h1, h1, h1, h1, h1, h1, h1, h1, h1, h1, h1]; exact ⟨rfl, rfl, rfl, rfl, rfl, rfl, rfl, rfl, rfl, rfl, rfl⟩
  · rw [c1] at hi; omega
  · rw [c2] at hi; omega
  · rw [c3] at hi; omega
  · rw [h2]; rfl
  · rw [c4] at hq; omega
theorem bo_cv (hX : FX τ G x (x + 434) (x + 466) (x + 498) (x + 505)) (z1 : ∀ k, gi G 10 k x = 0) (z2 : gi G 7 1 (x + 1) = 0 ∧ gi G 7 2 (x + 1) = -1) (z3 : ∀ k, gi G 3 k (x + 5) = 0) (z4 : ∀ k, gi G 6 k (x + 434) = if k = 11 then 1 else 0) (z5 : ∀ k, gi G 0 k (x + 438) = 0) (z6 : ∀ k, gi G 1 k (x + 498) = 0) : CV τ G x (x + 434) (x + 466) (x + 498) (x + 505) w0 none [] [] (-1) := by
  refine ⟨hX, bo_vs z4 z5, ⟨?_, fun _ => z6 6, fun h => absurd h w0_4⟩, ⟨z1 14, fun ω' h => by cases h⟩, ⟨0, by omega, z3 1, z3 2, fun j ω' hj => by simp at hj⟩, ⟨z2.1, fun j b hj => by simp at hj⟩, z2.2⟩
  rw [z6]; rfl
theorem bo_mv (hM : FM τ G m) (z1 : ∀ j, ge G (m + 1) j = if j = 12 then 1 else 0) (z2 : ∀ k, gi G 11 k m = if k = 14 then -1 else 0) : MV τ G m w0 none [] [] (-1) := by
  refine ⟨hM, funext z1, ⟨?_, fun ω' h => by cases h⟩, ⟨?_, fun j ω' hj => by simp at hj⟩, ⟨?_, fun j b hj => by simp at hj⟩, ?_⟩
  · rw [z2]; rfl
  · rw [z2]; rfl
  · rw [z2]; rfl
  · rw [z2]; rfl
/-- behind the two constructors and the long row -/
def bT (x : Nat) (τ : gτ) : gτ := gnt (iT_X11_init (x + 513) (gnt (iT_X10_init (x + 1) (gnt τ x 10 0)) (x + 512) 11 0)) (x + 523) 18 1
def bG (x : Nat) (G : gG) : gG := gnw (iG_X11_init (x + 513) (x + 512) (gnw (iG_X10_init (x + 1) x (gnw G x)) (x + 512))) (x + 523)
theorem bo_ST : ST (bT x τ) x (x + 512) (bG x G) ∧ gn (bT x τ) (x + 523) = 1 := by
  obtain ⟨a1, a2, a3, a4, a5, a6, a7⟩ := bo_X10 (τ := τ) (G := G) (x := x)
  unfold bT bG
  generalize iT_X10_init (x + 1) (gnt τ x 10 0) = t1 at a1 a2 a3 a4 a5 a6 a7
  generalize iG_X10_init (x + 1) x (gnw G x) = g1 at a1 a2 a3 a4 a5 a6 a7
  obtain ⟨b1, b2, b3, b4⟩ := bo_X11 (τ := t1) (G := g1) (m := x + 512)
  rw [show x + 512 + 1 = x + 513 by omega] at b1 b2 b3 b4
  generalize iT_X11_init (x + 513) (gnt t1 (x + 512) 11 0) = t2 at b1 b2 b3 b4
  generalize iG_X11_init (x + 513) (x + 512) (gnw g1 (x + 512)) = g2 at b1 b2 b3 b4
  have c1 : BF (fun b => x + 523 ≤ b) t2 g2 (gnt t2 (x + 523) 18 1) (gnw g2 (x + 523)) := BF.nw (by omega)
  have d1 : BF (fun b => x + 512 ≤ b) t1 g1 (gnt t2 (x + 523) 18 1) (gnw g2 (x + 523)) := (b1.mono fun b hb => by omega).tr (c1.mono fun b hb => by omega)
  have q : ∀ b, b ≤ x + 511 → gSame g1 (gnw g2 (x + 523)) b := fun b hb => d1.1 b (by omega)
  have r : ∀ b, b ≤ x + 522 → gSame g2 (gnw g2 (x + 523)) b := fun b hb => c1.1 b (by omega)
  refine ⟨⟨x + 434, x + 466, x + 498, x + 505, w0, none, [], [], -1, bo_cv (a2.up d1) (fun k => ?_) ⟨?_, ?_⟩ (fun k => ?_) (fun k => ?_) (fun k => ?_) (fun k => ?_), bo_mv (b2.up (c1.mono fun b hb => by omega)) (fun j => ?_) (fun k => ?_), w0_iv⟩, gn_new⟩
  · rw [(q x (by omega)).1]; exact a3 k
  · rw [(q (x + 1) (by omega)).1]; exact a4.1
  · rw [(q (x + 1) (by omega)).1]; exact a4.2
  · rw [(q (x + 5) (by omega)).1]; exact a5 k
  · rw [(q (x + 434) (by omega)).1]; exact a6.1 k
  · rw [(q (x + 438) (by omega)).1]; exact a6.2 k
  · rw [(q (x + 498) (by omega)).1]; exact a7 k
  · rw [show x + 512 + 1 = x + 513 by omega, (r (x + 513) (by omega)).2.2.1]; exact b3 j
  · rw [(r (x + 512) (by omega)).1]; exact b4 k
end
