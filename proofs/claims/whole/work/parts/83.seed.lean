/-! CALLS: seed -/
section
variable {ω ω' : gW}
/-- worlds alike but for cells of which the invariant says nothing -/
theorem wi_free (h : ∀ j, j ≠ 8 → j ≠ 9 → j ≠ 10 → j ≠ 12 → ω' j = ω j) (hI : WI ω) : WI ω' := by
  obtain ⟨⟨⟨a1, a2⟩, ⟨b1, b2⟩, c1, c2⟩, ⟨d1, d2, d3, d4, d5, d6, d7⟩, e1, e2, e3⟩ := hI
  have g : ∀ j, 13 ≤ j → ω' j = ω j := fun j hj => h j (by omega) (by omega) (by omega) (by omega)
  have q1 : cY ω' = cY ω := by unfold cY; rw [h 0 (by decide) (by decide) (by decide) (by decide)]
  have q2 : cR ω' = cR ω := by unfold cR; rw [h 1 (by decide) (by decide) (by decide) (by decide)]
  have q3 : cO ω' = cO ω := by unfold cO; rw [h 2 (by decide) (by decide) (by decide) (by decide)]
  have q4 : cL ω' = cL ω := by unfold cL; rw [h 11 (by decide) (by decide) (by decide) (by decide)]
  unfold WI
  rw [q1, q2, q3, q4, h 0 (by decide) (by decide) (by decide) (by decide), h 1 (by decide) (by decide) (by decide) (by decide), h 2 (by decide) (by decide) (by decide) (by decide), h 3 (by decide) (by decide) (by decide) (by decide), h 4 (by decide) (by decide) (by decide) (by decide), h 5 (by decide) (by decide) (by decide) (by decide), h 6 (by decide) (by decide) (by decide) (by decide), h 7 (by decide) (by decide) (by decide) (by decide), h 11 (by decide) (by decide) (by decide) (by decide)]
  refine ⟨⟨⟨a1, a2⟩, ⟨b1, b2⟩, c1, c2⟩, ⟨d1, d2, d3, d4, d5, d6, d7⟩, fun i hi => ?_, fun i hi => ?_, fun i hi => ?_⟩
  · have := e1 i hi
    unfold YOK yv at this ⊢
    rw [g _ (by omega), g _ (by omega), g _ (by omega), g _ (by omega)]
    exact this
  · exact rok_of q1 (fun j hj => g _ (by omega)) (e2 i hi)
  · have := e3 i hi
    unfold OOK ov at this ⊢
    rw [g _ (by omega), g _ (by omega), g _ (by omega)]
    exact this
/-- a Shed's head written -/
theorem vs_head (h0 : ω' 0 = ω 0) (h1 : ω' 1 = ω 1) (h2 : ω' 2 = ω 2) (h11 : ω' 11 = ω 11) (h : ∀ j, 13 ≤ j → ω' j = ω j) {G G' : gG} {s : Nat} (hI : WI ω) (hV : VS G s ω) (hf : Fr (fun b => b = s) G G') (hd : gi G' 6 4 s = ω' 0 ∧ gi G' 6 5 s = ω' 1 ∧ gi G' 6 6 s = ω' 2 ∧ gi G' 6 7 s = ω' 3 ∧ gi G' 6 8 s = ω' 6 ∧ gi G' 6 9 s = ω' 7 ∧ gi G' 6 10 s = ω' 5 ∧ gi G' 6 11 s = ω' 12 ∧ gi G' 6 12 s = ω' 10 ∧ gi G' 6 13 s = ω' 8 ∧ gi G' 6 14 s = ω' 9) : VS G' s ω' := by
  obtain ⟨a, b, c, d, ⟨l1, nx, l2, l3, l4⟩⟩ := hV
  have q1 : cY ω' = cY ω := by unfold cY; rw [h0]
  have q2 : cR ω' = cR ω := by unfold cR; rw [h1]
  have q3 : cO ω' = cO ω := by unfold cO; rw [h2]
  have q4 : cL ω' = cL ω := by unfold cL; rw [h11]
  refine ⟨hd, fun i hi => ?_, fun i hi => ?_, fun i hi => ?_, ?_, nx, l2, ?_, fun q w hq hw => ?_⟩
  · rw [q1] at hi
    have := b i hi
    unfold YV yv at this ⊢
    simp only [(hf (s + 6 + i) (by omega)).1]
    rw [h _ (by omega), h _ (by omega), h _ (by omega), h _ (by omega)]
    exact this
  · rw [q2] at hi
    have := c i hi
    unfold RV rv at this ⊢
    simp only [(hf (s + 16 + i) (by omega)).1]
    rw [h _ (by omega), h _ (by omega), h _ (by omega), h _ (by omega), h _ (by omega), h _ (by omega), h _ (by omega), h _ (by omega), h _ (by omega), h _ (by omega)]
    exact this
  · rw [q3] at hi
    have := d i hi
    unfold OV ov at this ⊢
    simp only [(hf (s + 24 + i) (by omega)).1]
    rw [h _ (by omega), h _ (by omega), h _ (by omega)]
    exact this
  · rw [(hf (s + 4) (by omega)).1, h11]; exact l1
  · rw [(hf (s + 4) (by omega)).1]; exact l3
  · rw [q4] at hq
    rw [(hf (s + 5) (by omega)).2.2.1, h (167 + 5 * q + w) (by omega)]
    exact l4 q w hq hw
end
section
variable {τ : gτ} {n : Nat} {G G' : gG} {x m s t l l' o : Nat} {ω ω' : gW} {im : Option gW} {me : List gW} {ta : List Nat} {fa : Int32}
theorem FS.head (h : FS τ G s) {c k : Nat} {v : Int32} : FS τ (gsi G c k s v) s := h
theorem op_seed (hm : m = x + 512) (hC : CV τ G x s t l l' ω im me ta fa) (hM : MV τ G m ω im me ta fa) (hI : IV ω im me ta) (v : Int32) : gOk (f_X10_seed x v G) (fun q => gOk (f_X11_seed τ m v q.2) (fun p => q.1 = p.1 ∧ ST τ x m p.2)) := by
  have hsl := hC.sl
  have hs := hC.rf.2.2.2.2.2.2.2.2.2.2.1
  have e : ∀ j, j ≠ 12 → wSt ω 12 v j = ω j := fun j hj => if_neg hj
  have hWI : WI (wSt ω 12 v) := wi_free (fun j _ _ _ h => e j h) hI.1
  have hIV : IV (wSt ω 12 v) im me ta := iv_of hI hWI (e 4 (by decide)) (fun j hj => e j (by omega))
  obtain ⟨a0, a1, a2, a3, a4, a5, a6, a7, a8, a9, a10⟩ := hC.vs.cn
  have f1 : Fr (fun b => b = s) G (gsi G 6 11 s v) := Fr.i rfl
  have hV : VS (gsi G 6 11 s v) s (wSt ω 12 v) := by
    refine vs_head (e 0 (by decide)) (e 1 (by decide)) (e 2 (by decide)) (e 11 (by decide)) (fun j hj => e j (by omega)) hI.1 hC.vs f1 ?_
    rw [e 0 (by decide), e 1 (by decide), e 2 (by decide), e 3 (by decide), e 6 (by decide), e 7 (by decide), e 5 (by decide), e 10 (by decide), e 8 (by decide), e 9 (by decide)]
    simp [ka_ii, wSt, a0, a1, a2, a3, a4, a5, a6, a8, a9, a10]
  have hC1 : CV τ (gsi G 6 11 s v) x s t l l' (wSt ω 12 v) im me ta fa := hC.world hI (f1.mono fun b hb => by show s ≤ b ∧ b ≤ s + 31; omega) hC.fs.1.head hV (e 4 (by decide)) (fun j hj => e j (by omega))
  unfold f_X10_seed
  rw [hs, ka_bs, ka_letE, ka_bs, ka_letE, a7]
  refine ⟨_, rfl, ?_⟩
  have hM1 : MV τ (gsi G 6 11 s v) m ω im me ta fa := hM.out f1 fun b c1 c2 h => by omega
  have hM2 : MV τ (gsi (gsi G 6 11 s v) 11 0 m 0) m ω im me ta fa := hM1.th0
  have fth : Fr (fun b => m ≤ b ∧ b ≤ m + 10) (gsi G 6 11 s v) (gsi (gsi G 6 11 s v) 11 0 m 0) := Fr.i ⟨Nat.le_refl _, by omega⟩
  show gOk (f_X11_seed τ m v (gsi G 6 11 s v)) _
  unfold f_X11_seed
  rw [ka_letE]
  generalize hG2 : gsi (gsi G 6 11 s v) 11 0 m 0 = G2 at hM2 fth
  rw [hM2.1.rf.1, ka_bs, hM2.1.w (x := 12) 12 rfl (by decide), ka_letE, ka_bs, hM2.1.w (x := 12) 12 rfl (by decide), ka_letE, hM2.2.1]
  have f3 : Fr (fun b => b = m + 1) G2 (gse G2 (m + 1) 12 v) := Fr.e rfl
  refine ⟨_, rfl, rfl, ST.mk0 hm hIV hC1 Fr.rf WE.rf (hM2.world f3 (by rw [ge_wSt, hM2.2.1]; rfl)) (fth.tr (f3.mono fun b hb => by omega))⟩
end
