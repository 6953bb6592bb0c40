/-! WHAT CLASS AND REFERENCE SHARE -/
def FX (τ : gτ) (G : gG) (x s t l l' : Nat) : Prop :=
  (gr G 10 0 x = some (x + 1) ∧ gr G 10 1 x = some (x + 3) ∧ gr G 10 2 x = some (x + 4) ∧ gr G 10 3 x = some (x + 5) ∧ gr G 10 4 x = some (x + 391) ∧ gr G 10 5 x = some (x + 423) ∧ gr G 10 6 x = some (x + 430) ∧ gr G 10 7 x = some (x + 431) ∧ gr G 10 8 x = some (x + 432) ∧ gr G 10 9 x = some (x + 433) ∧ gr G 10 10 x = some s ∧ gr G 10 11 x = some t ∧ gr G 10 12 x = some l ∧ gr G 10 13 x = some l') ∧
  (gr G 7 0 (x + 1) = some (x + 2) ∧ gr G 8 0 (x + 3) = some (x + 1) ∧ gr G 2 0 (x + 4) = some (x + 1) ∧ gr G 3 0 (x + 5) = some (x + 6)) ∧
  (gn τ (x + 2) = 400 ∧ gn τ (x + 6) = 12 ∧ gn τ (x + 431) = 256 ∧ gn τ (x + 432) = 256 ∧ gn τ (x + 433) = 10) ∧
  (∀ k, k < 12 → gq G (x + 6) k = some (x + 7 + 32 * k)) ∧
  (FS τ G (x + 434) ∧ FS τ G (x + 466) ∧ FS τ G (x + 391) ∧ ∀ k, k < 12 → FS τ G (x + 7 + 32 * k)) ∧
  (FL τ G (x + 423) ∧ FL τ G (x + 498) ∧ FL τ G (x + 505)) ∧
  ((s = x + 434 ∧ t = x + 466) ∨ (s = x + 466 ∧ t = x + 434)) ∧ ((l = x + 498 ∧ l' = x + 505) ∨ (l = x + 505 ∧ l' = x + 498))
/-- worlds alike but for the trial rope -/
def WE (ω ω' : gW) : Prop := ∀ j, j < 133 ∨ 143 ≤ j → ω' j = ω j
section
variable {ω ω' : gW}
theorem WE.rf : WE ω ω := fun _ _ => rfl
theorem WE.tr {ω'' : gW} (h : WE ω ω') (h' : WE ω' ω'') : WE ω ω'' := fun j hj => (h' j hj).trans (h j hj)
theorem WE.sy (h : WE ω ω') : WE ω' ω := fun j hj => (h j hj).symm
theorem WE.y (h : WE ω ω') {i k : Nat} (hi : i < 10) (hk : k < 4) : yv ω' i k = yv ω i k := h _ (by omega)
theorem WE.r (h : WE ω ω') {i k : Nat} (hi : i < 8) (hk : k < 10) : rv ω' i k = rv ω i k := h _ (by omega)
theorem WE.o (h : WE ω ω') {i k : Nat} : ov ω' i k = ov ω i k := h _ (by omega)
theorem WE.cs (h : WE ω ω') : cY ω' = cY ω ∧ cR ω' = cR ω ∧ cO ω' = cO ω ∧ cL ω' = cL ω ∧ cLn ω' = cLn ω := by
  unfold cY cR cO cL cLn
  rw [h 0 (by omega), h 1 (by omega), h 2 (by omega), h 11 (by omega), h 467 (by omega)]
  exact ⟨rfl, rfl, rfl, rfl, rfl⟩
theorem WE.e_ry (h : WE ω ω') {i k : Nat} (hi : i < 8) (hk : k < 10) : ry ω' i k = ry ω i k := by
  unfold ry
  rw [h.r hi hk]
theorem WE.wi (h : WE ω ω') (hI : WI ω) : WI ω' := by
  obtain ⟨⟨⟨a1, a2⟩, ⟨b1, b2⟩, c1, c2⟩, ⟨d1, d2, d3, d4, d5, d6, d7⟩, e1, e2, e3⟩ := hI
  obtain ⟨q1, q2, q3, q4, -⟩ := h.cs
  unfold WI
  rw [q1, q2, q3, q4, h 0 (by omega), h 1 (by omega), h 2 (by omega), h 3 (by omega), h 4 (by omega), h 5 (by omega), h 6 (by omega), h 7 (by omega), h 11 (by omega)]
  refine ⟨⟨⟨a1, a2⟩, ⟨b1, b2⟩, c1, c2⟩, ⟨d1, d2, d3, d4, d5, d6, d7⟩, fun i hi => ?_, fun i hi => ?_, fun i hi => ?_⟩
  · have := e1 i hi
    unfold YOK at this ⊢
    have i10 : i < 10 := by omega
    rw [h.y (k := 0) i10 (by decide), h.y (k := 1) i10 (by decide), h.y (k := 2) i10 (by decide), h.y (k := 3) i10 (by decide)]
    exact this
  · have := e2 i hi
    have i8 : i < 8 := by omega
    unfold ROK at this ⊢
    rw [h.e_ry (k := 0) i8 (by decide), h.e_ry (k := 1) i8 (by decide), h.e_ry (k := 2) i8 (by decide), h.r (k := 0) i8 (by decide), h.r (k := 1) i8 (by decide), h.r (k := 2) i8 (by decide), h.r (k := 3) i8 (by decide), h.r (k := 4) i8 (by decide), h.r (k := 5) i8 (by decide), h.r (k := 6) i8 (by decide), h.r (k := 7) i8 (by decide), h.r (k := 8) i8 (by decide), h.r (k := 9) i8 (by decide), q1]
    exact this
  · have := e3 i hi
    unfold OOK at this ⊢
    rw [h.o, h.o, h.o]
    exact this
theorem WE.e_sc (h : WE ω ω') (k : Nat) : sc ω' k = sc ω k := h _ (by omega)
theorem WE.e_sn (h : WE ω ω') (k : Nat) : sn ω' k = sn ω k := h _ (by omega)
theorem WE.e_lw (h : WE ω ω') (k j : Nat) : lw ω' k j = lw ω k j := h _ (by omega)
theorem WE.e_lb (h : WE ω ω') (k : Nat) : lb ω' k = lb ω k := by unfold lb; rw [h.e_lw]
theorem WE.e_le (h : WE ω ω') (k : Nat) : le ω' k = le ω k := by unfold le; rw [h.e_lw]
theorem WE.e_tyR (h : WE ω ω') (b : Nat) : ∀ k, tyR ω' b k = tyR ω b k := by
  intro k
  induction k with
  | zero => rfl
  | succ k ih =>
    show (tyR ω' b k).bind (tyS (sc ω' (b + k))) = (tyR ω b k).bind (tyS (sc ω (b + k)))
    rw [ih, h.e_sc]
theorem WE.li (h : WE ω ω') (hI : LI ω) : LI ω' := by
  unfold LI at hI ⊢
  rw [h 4 (by omega), h 467 (by omega), h.cs.2.2.2.2]
  intro h4
  obtain ⟨a, b, c⟩ := hI h4
  refine ⟨a, b, fun ln hl => ?_⟩
  obtain ⟨c1, c2, c3, ⟨d1, d2, d3, d4, d5⟩, c5⟩ := c ln hl
  rw [h.e_lw, h.e_lw, h.e_lw, h.e_lw, h.e_lb, h.e_le, h.e_le]
  refine ⟨c1, c2, c3, ⟨d1, d2, ?_, fun k hk => ?_, fun k h1 h2 => ?_⟩, c5⟩
  · rw [h.e_tyR]; exact d3
  · rw [h.e_tyR]; exact d4 k hk
  · have := d5 k h1 h2
    unfold stV at this ⊢
    rw [h.e_sc, h.e_sn]
    exact this
theorem WE.vs (h : WE ω ω') {G : gG} {s : Nat} (hI : WI ω) (hV : VS G s ω) : VS G s ω' := by
  obtain ⟨a, b, c, d, ⟨l1, nx, l2, l3, l4⟩⟩ := hV
  obtain ⟨q1, q2, q3, q4, -⟩ := h.cs
  have y1 := hI.y1
  have r1 := hI.r1
  refine ⟨?_, fun i hi => ?_, fun i hi => ?_, fun i hi => ?_, ?_, nx, l2, l3, fun q w hq hw => ?_⟩
  · rw [h 0 (by omega), h 1 (by omega), h 2 (by omega), h 3 (by omega), h 5 (by omega), h 6 (by omega), h 7 (by omega), h 8 (by omega), h 9 (by omega), h 10 (by omega), h 12 (by omega)]; exact a
  · rw [q1] at hi
    have := b i hi
    unfold YV at this ⊢
    have i10 : i < 10 := by omega
    rw [h.y (k := 0) i10 (by decide), h.y (k := 1) i10 (by decide), h.y (k := 2) i10 (by decide), h.y (k := 3) i10 (by decide)]
    exact this
  · rw [q2] at hi
    have := c i hi
    have i8 : i < 8 := by omega
    unfold RV at this ⊢
    rw [h.r (k := 0) i8 (by decide), h.r (k := 1) i8 (by decide), h.r (k := 2) i8 (by decide), h.r (k := 3) i8 (by decide), h.r (k := 4) i8 (by decide), h.r (k := 5) i8 (by decide), h.r (k := 6) i8 (by decide), h.r (k := 7) i8 (by decide), h.r (k := 8) i8 (by decide), h.r (k := 9) i8 (by decide)]
    exact this
  · rw [q3] at hi
    have := d i hi
    unfold OV at this ⊢
    rw [h.o, h.o, h.o]
    exact this
  · rw [h 11 (by omega)]; exact l1
  · rw [q4] at hq
    rw [h (167 + 5 * q + w) (by omega)]
    exact l4 q w hq hw
theorem WE.lv (h : WE ω ω') {G : gG} {l : Nat} (hV : LV G l ω) : LV G l ω' := by
  unfold LV at hV ⊢
  simp only [h 4 (by omega), h 467 (by omega), h.cs, h.e_lw, h.e_lb, h.e_le, h.e_sc, h.e_sn]
  exact hV
end
section
variable {τ : gτ} {G G' : gG} {x m s t l l' : Nat}
theorem FX.fr {A : Nat → Prop} (hf : Fr A G G') (h : FX τ G x s t l l') (hA : ∀ b, x ≤ b → b ≤ x + 427 → ¬ A b) (hB : ∀ b, x + 434 ≤ b → b ≤ x + 502 → ¬ A b ∨ (t ≤ b ∧ b ≤ t + 31)) (hC : ∀ b, x + 505 ≤ b → b ≤ x + 509 → ¬ A b) (hT : FS τ G' t) : FX τ G' x s t l l' := by
  obtain ⟨h1, h2, h3, h4, ⟨f1, f2, f3, f4⟩, ⟨g1, g2, g3⟩, h7, h8⟩ := h
  have q := fun b h1 h2 => hf b (hA b h1 h2)
  refine ⟨?_, ?_, h3, fun k hk => ?_, ⟨?_, ?_, ?_, fun k hk => ?_⟩, ⟨?_, ?_, ?_⟩, h7, h8⟩
  · simp only [(q x (by omega) (by omega)).2.1]; exact h1
  · rw [(q (x + 1) (by omega) (by omega)).2.1, (q (x + 3) (by omega) (by omega)).2.1, (q (x + 4) (by omega) (by omega)).2.1, (q (x + 5) (by omega) (by omega)).2.1]; exact h2
  · rw [(q (x + 6) (by omega) (by omega)).2.2.2.1]; exact h4 k hk
  · rcases h7 with ⟨-, ht⟩ | ⟨-, ht⟩
    · exact hf.fs f1 fun b c1 c2 => (hB b (by omega) (by omega)).resolve_right (by omega)
    · rw [← ht]; exact hT
  · rcases h7 with ⟨-, ht⟩ | ⟨-, ht⟩
    · rw [← ht]; exact hT
    · exact hf.fs f2 fun b c1 c2 => (hB b (by omega) (by omega)).resolve_right (by omega)
  · exact hf.fs f3 fun b c1 c2 => hA b (by omega) (by omega)
  · exact hf.fs (f4 k hk) fun b c1 c2 => hA b (by omega) (by omega)
  · exact hf.fl g1 (hA _ (by omega) (by omega))
  · exact hf.fl g2 ((hB _ (by omega) (by omega)).resolve_right (by omega))
  · exact hf.fl g3 (hC _ (by omega) (by omega))
end
