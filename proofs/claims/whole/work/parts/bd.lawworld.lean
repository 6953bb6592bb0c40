/-! TEXTS: what a text of the law makes of the world -/
section
variable {ω ω' : gW} {Λ : List lwL} {P : List (Nat × Int32)} {G : gG} {l b d : Nat}
/-- the world holds a law -/
def LWd (ω : gW) (Λ : List lwL) (P : List (Nat × Int32)) : Prop := ω 4 = 1 ∧ ω 467 = nI Λ.length ∧ (∀ j r, Λ[j]? = some r → lw ω j 0 = r.1 ∧ lw ω j 1 = r.2.1 ∧ lw ω j 2 = nI r.2.2.1 ∧ lw ω j 3 = nI r.2.2.2) ∧ ∀ k s, P[k]? = some s → sc ω k = nI s.1 ∧ sn ω k = s.2
theorem ty_sq : ∀ {Q : List (Nat × Int32)} {k0 : Nat} {T T1 : List Bool}, sqL d T Q T1 → tyR ω b k0 = some T → (∀ k s, Q[k]? = some s → sc ω (b + k0 + k) = nI s.1) → tyR ω b (k0 + Q.length) = some T1 ∧ ∀ k, k ≤ Q.length → ∃ T', tyR ω b (k0 + k) = some T' ∧ T'.length ≤ d
  | [], k0, T, T1, h, ht, hq => by
    obtain ⟨e, h1⟩ := h
    subst e
    refine ⟨ht, fun k hk => ?_⟩
    have hk : k = 0 := Nat.le_zero.mp hk
    subst hk
    exact ⟨_, ht, h1⟩
  | s :: Q, k0, T, T1, h, ht, hq => by
    obtain ⟨h1, T2, h2, h3⟩ := h
    have e0 : sc ω (b + k0) = nI s.1 := hq 0 s rfl
    have e1 : tyR ω b (k0 + 1) = some T2 := by
      show (tyR ω b k0).bind (tyS (sc ω (b + k0))) = some T2
      rw [ht, e0]
      exact h2
    obtain ⟨g1, g2⟩ := ty_sq (k0 := k0 + 1) h3 e1 (fun k s' hk => by
      have := hq (k + 1) s' hk
      rw [show b + (k0 + 1) + k = b + k0 + (k + 1) by omega]
      exact this)
    refine ⟨?_, fun k hk => ?_⟩
    · rw [show k0 + (s :: Q).length = k0 + 1 + Q.length by show k0 + (Q.length + 1) = _; omega]
      exact g1
    · cases k with
      | zero => exact ⟨T, ht, h1⟩
      | succ k =>
        have hk : k + 1 ≤ Q.length + 1 := hk
        obtain ⟨T', q1, q2⟩ := g2 k (by omega)
        exact ⟨T', by rw [show k0 + (k + 1) = k0 + 1 + k by omega]; exact q1, q2⟩
theorem gn_at {α : Type} {A : List α} {j : Nat} (h : j < A.length) : ∃ x, A[j]? = some x := ⟨A[j], List.getElem?_eq_getElem h⟩
theorem LWd.cl (h : LWd ω Λ P) (hΛ : Λ.length ≤ 12) : cLn ω = Λ.length := by
  unfold cLn
  rw [h.2.1, nI_clamp (by omega)]
theorem LWd.at {j : Nat} {r : lwL} (h : LWd ω Λ P) (hW : LW Λ P) (hP : P.length ≤ 400) (hr : Λ[j]? = some r) : lb ω j = r.2.2.1 ∧ le ω j = r.2.2.2 := by
  obtain ⟨-, -, w2, w3⟩ := h.2.2.1 j r hr
  obtain ⟨-, -, ⟨c1, c2⟩, -⟩ := hW.2.2 j r hr
  unfold lb le
  rw [w2, w3, nI_clamp (by omega), nI_clamp (by omega)]
  exact ⟨rfl, rfl⟩
theorem LWd.li (h : LWd ω Λ P) (hW : LW Λ P) (hP : P.length ≤ 400) (hΛ : Λ.length ≤ 12) : LI ω := by
  intro h4
  have ec := h.cl hΛ
  refine ⟨by rw [ec]; exact h.2.1, by rw [ec]; exact hΛ, fun ln hl => ?_⟩
  rw [ec] at hl
  obtain ⟨r, hr⟩ := gn_at hl
  obtain ⟨w0, w1, w2, w3⟩ := h.2.2.1 ln r hr
  obtain ⟨c1, c2, ⟨c3, c3'⟩, c4, Q, c5, c6, c7⟩ := hW.2.2 ln r hr
  obtain ⟨eb, ee⟩ := h.at hW hP hr
  rw [w0, w1, w2, w3, eb, ee]
  have hsc : ∀ k s, Q[k]? = some s → sc ω (r.2.2.1 + 0 + k) = nI s.1 := fun k s hk => (h.2.2.2 _ s (c6 k s hk)).1
  refine ⟨c1, rfl, rfl, ⟨c3, by omega, ?_, ?_, fun k h1 h2 => ?_⟩, ?_, c2⟩
  · rcases c7 with c7 | c7
    · subst c7
      exact Or.inl c5
    · right
      have := (ty_sq (ω := ω) (b := r.2.2.1) (k0 := 0) c7 rfl hsc).1
      rw [show r.2.2.2 - r.2.2.1 = 0 + Q.length by omega]
      exact this
  · intro k hk
    rcases c7 with c7 | c7
    · subst c7
      have c5 : r.2.2.1 + 0 = r.2.2.2 := c5
      have hk : k = 0 := by omega
      subst hk
      exact ⟨[], rfl, Nat.zero_le _⟩
    · obtain ⟨T', q1, q2⟩ := (ty_sq (ω := ω) (b := r.2.2.1) (k0 := 0) c7 rfl hsc).2 k (by omega)
      rw [Nat.zero_add] at q1
      exact ⟨T', q1, by omega⟩
  · obtain ⟨s, hs⟩ := gn_at (show k < P.length by omega)
    obtain ⟨g1, g2⟩ := h.2.2.2 k s hs
    obtain ⟨q1, q2⟩ := hW.1 s (List.mem_of_getElem? hs)
    exact ⟨s.1, q1, g1, fun e => by rw [g2]; exact q2 e⟩
  · rw [c4]
    unfold enL
    by_cases h0 : ln = 0
    · rw [if_pos h0, if_pos h0]
    · rw [if_neg h0, if_neg h0]
      obtain ⟨r', hr'⟩ := gn_at (show ln - 1 < Λ.length by omega)
      rw [(h.at hW hP hr').2, List.getD_eq_getElem?_getD, hr']
      rfl
theorem LWd.lv (h : LWd ω Λ P) (hW : LW Λ P) (hP : P.length ≤ 400) (hΛ : Λ.length ≤ 12) (h8 : gi G 1 8 l = 1) (hR : LRw G l Λ) (hC : CS G l P) : LV G l ω := by
  have ec := h.cl hΛ
  refine ⟨by rw [h8, h.1], fun hn => absurd h.1 hn, fun _ => ⟨by rw [hR.1, h.2.1], fun ln hl => ?_⟩⟩
  rw [ec] at hl
  obtain ⟨r, hr⟩ := gn_at hl
  obtain ⟨w0, w1, w2, w3⟩ := h.2.2.1 ln r hr
  obtain ⟨r1, r2, r3⟩ := hR.2 ln r hr
  obtain ⟨eb, ee⟩ := h.at hW hP hr
  obtain ⟨-, -, ⟨c3, c3'⟩, -⟩ := hW.2.2 ln r hr
  rw [w0, w1, w3, eb, ee]
  refine ⟨r1, r2, r3, fun k h1 h2 => ?_⟩
  obtain ⟨s, hs⟩ := gn_at (show k < P.length by omega)
  obtain ⟨g1, g2⟩ := h.2.2.2 k s hs
  rw [g1, g2]
  exact hC.2 k s hs
theorem wi_4 (h : ∀ j, j < 467 → j ≠ 4 → ω' j = ω j) (h4 : ω' 4 = 1) (hI : WI ω) : WI ω' := by
  obtain ⟨⟨⟨a1, a2⟩, ⟨b1, b2⟩, c1, c2⟩, ⟨d1, d2, d3, d4, d5, d6, d7⟩, e1, e2, e3⟩ := hI
  have q1 : cY ω' = cY ω := by unfold cY; rw [h 0 (by decide) (by decide)]
  have q2 : cR ω' = cR ω := by unfold cR; rw [h 1 (by decide) (by decide)]
  have q3 : cO ω' = cO ω := by unfold cO; rw [h 2 (by decide) (by decide)]
  have q4 : cL ω' = cL ω := by unfold cL; rw [h 11 (by decide) (by decide)]
  unfold WI
  rw [q1, q2, q3, q4, h 0 (by decide) (by decide), h 1 (by decide) (by decide), h 2 (by decide) (by decide), h 3 (by decide) (by decide), h 5 (by decide) (by decide), h 6 (by decide) (by decide), h 7 (by decide) (by decide), h 11 (by decide) (by decide), h4]
  refine ⟨⟨⟨a1, a2⟩, ⟨b1, b2⟩, c1, c2⟩, ⟨d1, ⟨1, Nat.zero_le _, Nat.le_refl _, rfl⟩, d3, d4, d5, d6, d7⟩, fun i hi => ?_, fun i hi => ?_, fun i hi => ?_⟩
  · have := e1 i hi
    unfold YOK yv at this ⊢
    rw [h _ (by omega) (by omega), h _ (by omega) (by omega), h _ (by omega) (by omega), h _ (by omega) (by omega)]
    exact this
  · exact rok_of q1 (fun j hj => h _ (by omega) (by omega)) (e2 i hi)
  · have := e3 i hi
    unfold OOK ov at this ⊢
    rw [h _ (by omega) (by omega), h _ (by omega) (by omega), h _ (by omega) (by omega)]
    exact this
theorem vs_4 (h : ∀ j, j < 467 → j ≠ 4 → ω' j = ω j) (hI : WI ω) (hV : VS G b ω) : VS G b ω' := by
  obtain ⟨a, b', c, d, ⟨l1, nx, l2, l3, l4⟩⟩ := hV
  have y1 := hI.y1
  have r1 := hI.r1
  have o1 := hI.o1
  have ll := hI.l0
  have q1 : cY ω' = cY ω := by unfold cY; rw [h 0 (by decide) (by decide)]
  have q2 : cR ω' = cR ω := by unfold cR; rw [h 1 (by decide) (by decide)]
  have q3 : cO ω' = cO ω := by unfold cO; rw [h 2 (by decide) (by decide)]
  have q4 : cL ω' = cL ω := by unfold cL; rw [h 11 (by decide) (by decide)]
  refine ⟨?_, fun i hi => ?_, fun i hi => ?_, fun i hi => ?_, ?_, nx, l2, l3, fun q w hq hw => ?_⟩
  · rw [h 0 (by omega) (by omega), h 1 (by omega) (by omega), h 2 (by omega) (by omega), h 3 (by omega) (by omega), h 5 (by omega) (by omega), h 6 (by omega) (by omega), h 7 (by omega) (by omega), h 8 (by omega) (by omega), h 9 (by omega) (by omega), h 10 (by omega) (by omega), h 12 (by omega) (by omega)]; exact a
  · rw [q1] at hi
    have := b' i hi
    unfold YV yv at this ⊢
    rw [h _ (by omega) (by omega), h _ (by omega) (by omega), h _ (by omega) (by omega), h _ (by omega) (by omega)]
    exact this
  · rw [q2] at hi
    have := c i hi
    unfold RV rv at this ⊢
    rw [h _ (by omega) (by omega), h _ (by omega) (by omega), h _ (by omega) (by omega), h _ (by omega) (by omega), h _ (by omega) (by omega), h _ (by omega) (by omega), h _ (by omega) (by omega), h _ (by omega) (by omega), h _ (by omega) (by omega), h _ (by omega) (by omega)]
    exact this
  · rw [q3] at hi
    have := d i hi
    unfold OV ov at this ⊢
    rw [h _ (by omega) (by omega), h _ (by omega) (by omega), h _ (by omega) (by omega)]
    exact this
  · rw [h 11 (by omega) (by omega)]; exact l1
  · rw [q4] at hq
    rw [h (167 + 5 * q + w) (by omega) (by omega)]
    exact l4 q w hq hw
end
section
variable {τ : gτ} {n : Nat} {G G' : gG} {x m s t l l' o s1 t1 l1 l1' : Nat} {ω ω' ω1 : gW} {im im1 : Option gW} {me me1 : List gW} {ta ta1 : List Nat} {fa fa1 fa' : Int32}
/-- the world, changed where nothing is told -/
theorem CV.lo (h : CV τ G x s t l l' ω im me ta fa) (hI : IV ω im me ta) (hw : ∀ j, j < 1316 → ω' j = ω j) : CV τ G x s t l l' ω' im me ta fa := by
  obtain ⟨hX, hV, hLV, h4⟩ := h
  exact ⟨hX, vs_of (fun j hj => hw j (by omega)) hI.1 hV, lv_lo hw hI.2.1 hLV, h4⟩
theorem IV.lo (hI : IV ω im me ta) (hw : ∀ j, j < 1316 → ω' j = ω j) : IV ω' im me ta := by
  obtain ⟨a, b, c, ⟨d, e⟩, f⟩ := hI
  exact ⟨wi_of (fun j hj => hw j (by omega)) a, li_lo hw b, c, ⟨d, fun j w hj => ⟨(e j w hj).1, by rw [(e j w hj).2, hw 4 (by decide)]⟩⟩, f⟩
/-- the join where the reference's own world is told at the end -/
theorem join_w {α : Type} {I : gW → Prop} {fc : Option ((String ⊕ Int32) × gG)} {fm : gG → Option (Int32 × gG)} {L : List String} {ans : String ⊕ Int32} {Kx : Int32 → Int64} (hm : m = x + 512) (ho : o = m + 11) (hτ : gn τ o = 1) (hL : L.length ≤ 5) (hM : MV τ G m ω im me ta fa) (hI : ∀ w, I w → IV w im1 me1 ta1)
    (h1 : gOk fc (fun q => q.1 = ans ∧ (∀ w, I w → CV τ q.2 x s1 t1 l1 l1' w im1 me1 ta1 fa1) ∧ Fr (fun b => x ≤ b ∧ b ≤ x + 511) G q.2))
    (h2 : ∀ G1, MV τ G1 m ω im me ta fa → gOk (fm G1) (fun p => Th L ans p.1 (gi p.2 11 0 m) ∧ (∃ w, I w ∧ MV τ p.2 m w im1 me1 ta1 fa1) ∧ Fr (fun b => m ≤ b ∧ b ≤ m + 10) G1 p.2)) :
    gOk (gTry fc L fun v G => gchk (gIn 0 (gn τ o)) <| some (0, gsl G o 0 (Kx v))) (fun q => gOk (fm q.2) (fun p => q.1 = gi p.2 11 0 m ∧ (q.1 = 0 → gl p.2 o 0 = Kx p.1) ∧ ST τ x m p.2)) := by
  obtain ⟨⟨a, G1⟩, e1, e2, e3, e4⟩ := h1
  have e2 : a = ans := e2
  subst e2
  refine gTry_ok ⟨(a, G1), e1, ?_⟩
  have hM1 : MV τ G1 m ω im me ta fa := hM.out e4 fun b h1 h2 => by omega
  cases a with
  | inl e =>
    obtain ⟨p, q0, p1, ⟨w, p2, p3⟩, p4⟩ := h2 G1 hM1
    have p1 : gCode L e 1 = some (gi p.2 11 0 m) := p1
    refine ⟨_, p1, p, q0, rfl, fun h0 => ?_, ST.mk0 hm (hI w p2) (e3 w p2) Fr.rf WE.rf p3 p4⟩
    obtain ⟨j, hj, h⟩ := gCode_ne L 1 p1
    have h0 : gi p.2 11 0 m = 0 := h0
    rw [h0] at h
    exact absurd ((nI_eq (a := 0) (by decide) (by omega)).mp h) (by omega)
  | inr v =>
    show gOk (gchk (gIn 0 (gn τ o)) (some (0, gsl G1 o 0 (Kx v)))) _
    rw [ka_chkT (by rw [hτ]; exact ka_in (i := 0) (by decide) (by decide))]
    have hf : Fr (fun b => b = m + 11) G1 (gsl G1 o 0 (Kx v)) := fun b hb => gSame.l (fun e => hb (by rw [e, ho]))
    refine ⟨_, rfl, gOk.mono (h2 _ (hM1.out hf fun b h1 h2 => by omega)) fun p hp => ?_⟩
    obtain ⟨⟨t1, t2⟩, ⟨w, p2, p3⟩, p4⟩ := hp
    refine ⟨t1.symm, fun _ => ?_, ST.mk0 hm (hI w p2) (e3 w p2) hf WE.rf p3 p4⟩
    rw [(p4 o (by omega)).2.2.2.2, t2]
    simp [gl, gsl]
end
