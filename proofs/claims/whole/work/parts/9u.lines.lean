/-! TEXTS: what a line of the walk makes of the world -/
section
variable {ω ω' : gW} {p q r u v : Int32}
/-- what stays of the world while a walk is read -/
def NW (ω ω' : gW) : Prop := WI ω' ∧ ω' 3 = ω 3 ∧ ω' 4 = ω 4 ∧ ∀ j, 467 ≤ j → ω' j = ω j
theorem NW.rf (h : WI ω) : NW ω ω := ⟨h, rfl, rfl, fun _ _ => rfl⟩
theorem NW.tr {ω'' : gW} (h : NW ω ω') (h' : NW ω' ω'') : NW ω ω'' := ⟨h'.1, h'.2.1.trans h.2.1, h'.2.2.1.trans h.2.2.1, fun j hj => (h'.2.2.2 j hj).trans (h.2.2.2 j hj)⟩
theorem rok_mn {i : Nat} (hK : ROK ω i) (hy : cY ω ≤ cY ω') (h : ∀ j, j < 10 → rv ω' i j = rv ω i j) : ROK ω' i := by
  obtain ⟨a, b, ⟨c3, c4, c5, c6, c8, c9⟩, c7, c38⟩ := hK
  have r0 : ry ω' i 0 = ry ω i 0 := by unfold ry; rw [h 0 (by decide)]
  have r1 : ry ω' i 1 = ry ω i 1 := by unfold ry; rw [h 1 (by decide)]
  have r2 : ry ω' i 2 = ry ω i 2 := by unfold ry; rw [h 2 (by decide)]
  unfold ROK
  rw [r0, r1, r2, h 0 (by decide), h 1 (by decide), h 2 (by decide), h 3 (by decide), h 4 (by decide), h 5 (by decide), h 6 (by decide), h 7 (by decide), h 8 (by decide), h 9 (by decide)]
  exact ⟨⟨⟨a.1.1, by omega⟩, ⟨a.2.1.1, by omega⟩, a.2.2.1, by omega⟩, b, ⟨c3, c4, c5, c6, c8, c9⟩, c7, c38⟩
def yaW (ω : gW) (p q r u : Int32) : gW := wSt (wSt (wSt (wSt (wSt ω (13 + 4 * cY ω) p) (13 + 4 * cY ω + 1) q) (13 + 4 * cY ω + 2) r) (13 + 4 * cY ω + 3) u) 0 (nI (cY ω + 1))
theorem yaW.xx {j : Nat} (h0 : j ≠ 0) (h : j < 13 + 4 * cY ω ∨ 17 + 4 * cY ω ≤ j) : yaW ω p q r u j = ω j := by
  unfold yaW
  rw [wSt_ne h0, wSt_ne (by omega), wSt_ne (by omega), wSt_ne (by omega), wSt_ne (by omega)]
theorem yaW.c (h : cY ω < 10) : cY (yaW ω p q r u) = cY ω + 1 := by
  show (yaW ω p q r u 0).toNatClampNeg = _
  unfold yaW
  rw [wSt_eq, nI_clamp (by omega)]
theorem yaW.n : yv (yaW ω p q r u) (cY ω) 0 = p ∧ yv (yaW ω p q r u) (cY ω) 1 = q ∧ yv (yaW ω p q r u) (cY ω) 2 = r ∧ yv (yaW ω p q r u) (cY ω) 3 = u := by
  unfold yaW yv
  refine ⟨?_, ?_, ?_, ?_⟩
  · rw [wSt_ne (by omega), wSt_ne (by omega), wSt_ne (by omega), wSt_ne (by omega)]; exact wSt_eq
  · rw [wSt_ne (by omega), wSt_ne (by omega), wSt_ne (by omega), wSt_eq]
  · rw [wSt_ne (by omega), wSt_ne (by omega), wSt_eq]
  · rw [wSt_ne (by omega), wSt_eq]
theorem yaW.nw (hI : WI ω) (h : cY ω < 10) (hp : bt p 1 30) (hq : bt q 0 200) (hr : bt r 0 9) (hu : bt u 0 5) : NW ω (yaW ω p q r u) := by
  have X : ∀ {j : Nat}, j ≠ 0 → (j < 13 ∨ 53 ≤ j) → yaW ω p q r u j = ω j := fun {j} h0 h1 => yaW.xx h0 (by omega)
  have cr : cR (yaW ω p q r u) = cR ω := by unfold cR; rw [X (by decide) (by decide)]
  have co : cO (yaW ω p q r u) = cO ω := by unfold cO; rw [X (by decide) (by decide)]
  refine ⟨?_, X (by decide) (by decide), X (by decide) (by decide), fun j hj => X (by omega) (by omega)⟩
  refine wi_acts hI ⟨?_, ?_⟩ ⟨?_, ?_⟩ ⟨?_, ?_⟩ (X (by decide) (by decide)) (X (by decide) (by decide)) (X (by decide) (by decide)) (X (by decide) (by decide)) (X (by decide) (by decide)) (X (by decide) (by decide)) (fun i hi => ?_) (fun i hi => ?_) (fun i hi => ?_)
  · rw [yaW.c h]; exact wSt_eq
  · rw [yaW.c h]; omega
  · rw [cr, X (by decide) (by decide)]; exact hI.r0
  · rw [cr]; exact hI.r1
  · rw [co, X (by decide) (by decide)]; exact hI.o0
  · rw [co]; exact hI.o1
  · rw [yaW.c h] at hi
    by_cases hic : i = cY ω
    · subst hic
      obtain ⟨n0, n1, n2, n3⟩ := yaW.n (ω := ω) (p := p) (q := q) (r := r) (u := u)
      unfold YOK
      rw [n0, n1, n2, n3]
      exact ⟨hp, hq, hr, hu⟩
    · exact (hI.y (i := i) (by omega)).mv fun k hk => yaW.xx (by omega) (by omega)
  · rw [cr] at hi
    exact rok_mn (hI.r hi) (by rw [yaW.c h]; omega) fun j hj => X (by omega) (by omega)
  · rw [co] at hi
    exact (hI.o hi).mv fun k hk => X (by omega) (by omega)
def oaW (ω : gW) (p q r : Int32) : gW := wSt (wSt (wSt (wSt ω (143 + 3 * cO ω) p) (143 + 3 * cO ω + 1) q) (143 + 3 * cO ω + 2) r) 2 (nI (cO ω + 1))
theorem oaW.xx {j : Nat} (h0 : j ≠ 2) (h : j < 143 + 3 * cO ω ∨ 146 + 3 * cO ω ≤ j) : oaW ω p q r j = ω j := by
  unfold oaW
  rw [wSt_ne h0, wSt_ne (by omega), wSt_ne (by omega), wSt_ne (by omega)]
theorem oaW.c (h : cO ω < 8) : cO (oaW ω p q r) = cO ω + 1 := by
  show (oaW ω p q r 2).toNatClampNeg = _
  unfold oaW
  rw [wSt_eq, nI_clamp (by omega)]
theorem oaW.n : ov (oaW ω p q r) (cO ω) 0 = p ∧ ov (oaW ω p q r) (cO ω) 1 = q ∧ ov (oaW ω p q r) (cO ω) 2 = r := by
  unfold oaW ov
  refine ⟨?_, ?_, ?_⟩
  · rw [wSt_ne (by omega), wSt_ne (by omega), wSt_ne (by omega)]; exact wSt_eq
  · rw [wSt_ne (by omega), wSt_ne (by omega), wSt_eq]
  · rw [wSt_ne (by omega), wSt_eq]
theorem oaW.nw (hI : WI ω) (h : cO ω < 8) (hp : bt p 1 400) (hq : bt q 1 60) (hr : bt r 0 99) : NW ω (oaW ω p q r) := by
  have X : ∀ {j : Nat}, j ≠ 2 → (j < 143 ∨ 167 ≤ j) → oaW ω p q r j = ω j := fun {j} h0 h1 => oaW.xx h0 (by omega)
  have cy : cY (oaW ω p q r) = cY ω := by unfold cY; rw [X (by decide) (by decide)]
  have cr : cR (oaW ω p q r) = cR ω := by unfold cR; rw [X (by decide) (by decide)]
  have hy := hI.y1
  have hr1 := hI.r1
  refine ⟨?_, X (by decide) (by decide), X (by decide) (by decide), fun j hj => X (by omega) (by omega)⟩
  refine wi_acts hI ⟨?_, ?_⟩ ⟨?_, ?_⟩ ⟨?_, ?_⟩ (X (by decide) (by decide)) (X (by decide) (by decide)) (X (by decide) (by decide)) (X (by decide) (by decide)) (X (by decide) (by decide)) (X (by decide) (by decide)) (fun i hi => ?_) (fun i hi => ?_) (fun i hi => ?_)
  · rw [cy, X (by decide) (by decide)]; exact hI.y0
  · rw [cy]; exact hI.y1
  · rw [cr, X (by decide) (by decide)]; exact hI.r0
  · rw [cr]; exact hI.r1
  · rw [oaW.c h]; exact wSt_eq
  · rw [oaW.c h]; omega
  · rw [cy] at hi
    exact (hI.y hi).mv fun k hk => X (by omega) (by omega)
  · rw [cr] at hi
    exact rok_mn (hI.r hi) (by omega) fun j hj => X (by omega) (by omega)
  · rw [oaW.c h] at hi
    by_cases hic : i = cO ω
    · subst hic
      obtain ⟨n0, n1, n2⟩ := oaW.n (ω := ω) (p := p) (q := q) (r := r)
      unfold OOK
      rw [n0, n1, n2]
      exact ⟨hp, hq, hr⟩
    · exact (hI.o (i := i) (by omega)).mv fun k hk => oaW.xx (by omega) (by omega)
/-- gale and damp -/
theorem gdW.nw (hI : WI ω) {k : Nat} (hk : k = 6 ∨ k = 7) (hv : bt v 0 100) : NW ω (wSt ω k v) := by
  have X : ∀ {j : Nat}, j ≠ k → wSt ω k v j = ω j := fun h => wSt_ne h
  have cy : cY (wSt ω k v) = cY ω := by unfold cY; rw [X (by omega)]
  have cr : cR (wSt ω k v) = cR ω := by unfold cR; rw [X (by omega)]
  have co : cO (wSt ω k v) = cO ω := by unfold cO; rw [X (by omega)]
  have cl : cL (wSt ω k v) = cL ω := by unfold cL; rw [X (by omega)]
  obtain ⟨a, ⟨d1, d2, d3, d4, d5, d6, d7⟩, -⟩ := id hI
  refine ⟨⟨?_, ⟨?_, ?_, ?_, ?_, ?_, ?_, ?_⟩, fun i hi => ?_, fun i hi => ?_, fun i hi => ?_⟩, X (by omega), X (by omega), fun j hj => X (by omega)⟩
  · rw [cy, cr, co, X (by omega), X (by omega), X (by omega)]; exact a
  · rw [X (by omega)]; exact d1
  · rw [X (by omega)]; exact d2
  · rw [X (by omega)]; exact d3
  · by_cases h : k = 6
    · subst h; rw [wSt_eq]; exact hv
    · rw [X (by omega)]; exact d4
  · by_cases h : k = 7
    · subst h; rw [wSt_eq]; exact hv
    · rw [X (by omega)]; exact d5
  · rw [cl, X (by omega)]; exact d6
  · rw [cl]; exact d7
  · rw [cy] at hi
    exact (hI.y hi).mv fun k hk => X (by omega)
  · rw [cr] at hi
    exact rok_mn (hI.r hi) (by omega) fun j hj => X (by omega)
  · rw [co] at hi
    exact (hI.o hi).mv fun k hk => X (by omega)
theorem RE.nw {k : Nat} (h : RE k ω ω') (hI : WI ω) (hk : k < cR ω) (hK : ROK ω' k) : NW ω ω' := by
  have := hI.r1
  exact ⟨h.wi hk hI hK, h _ (by omega), h _ (by omega), fun j hj => h _ (by omega)⟩
def taW (ω : gW) (k : Nat) (v : Int32) : gW := rS ω k 4 v
theorem taW.re {k : Nat} : RE k ω (taW ω k v) := RE.rf.rs (by decide)
theorem taW.e {k j : Nat} (hj : j < 10) : rv (taW ω k v) k j = if j = 4 then v else rv ω k j := by
  unfold taW
  by_cases h5 : j = 4
  · rw [if_pos h5, h5, rv_rS1 (by decide)]
  · rw [if_neg h5, rv_rS0 (by decide) hj h5]
theorem taW.ok {k : Nat} (hk : k < 8) (hK : ROK ω k) (hv : bt v 0 9) : ROK (taW ω k v) k := by
  obtain ⟨-, -, ⟨c3, c4, c5, c6, c8, c9⟩, c7, c38⟩ := id hK
  refine rok_set hK (taW.re.cs hk).1 (fun j hj => ?_) ?_ ?_ ?_ ?_ ?_ ?_ ?_ ?_
  · rw [taW.e (by omega), if_neg (by omega)]
  · rw [taW.e (by decide)]; exact c3
  · rw [taW.e (by decide)]; exact hv
  · rw [taW.e (by decide)]; exact c5
  · rw [taW.e (by decide)]; exact c6
  · rw [taW.e (by decide)]; exact c8
  · rw [taW.e (by decide)]; exact c9
  · rw [taW.e (by decide)]; exact c7
  · rw [taW.e (by decide), taW.e (by decide)]; exact c38
theorem layW.nw {a b d : Nat} (hI : WI ω) (ha : a < cY ω) (hb : b < cY ω) (hd : d < cY ω) (hab : a ≠ b) (had : a ≠ d) (hbd : b ≠ d) (h8 : cR ω < 8) (hv : bt v 1 200) (hle : ¬ (yv ω a 1 < v ∨ yv ω b 1 < v ∨ yv ω d 1 < v)) : NW ω (layW ω a b d v) := by
  have hy := hI.y1
  have X : ∀ {j : Nat}, j ≠ 1 → (j < 13 ∨ 133 ≤ j) → layW ω a b d v j = ω j := fun h1 h => layW.xx (by omega) (by omega) (by omega) h8 h1 h
  exact ⟨layW.wi hI ha hb hd hab had hbd h8 hv hle, X (by decide) (by decide), X (by decide) (by decide), fun j hj => X (by omega) (by omega)⟩
end
section
variable {τ : gτ} {n : Nat} {G G' : gG} {s : Nat} {ω : gW} {p q r u v : Int32}
theorem s_addYarn (hF : FS τ G s) (hV : VS G s ω) (hI : WI ω) (h : cY ω < 10) : gOk (f_X6_addYarn τ s p q r u G) (fun G' => VS G' s (yaW ω p q r u) ∧ FS τ G' s ∧ Fr (spn s) G G') := by
  have hro := hI.r1
  have hoo := hI.o1
  obtain ⟨d0, d1, d2, d3, d4, d5, d6, d7, d8, d9, d10⟩ := hV.cn
  have hx : gi (gsi (gsi (gsi (gsi G 9 0 (s + 6 + cY ω) p) 9 1 (s + 6 + cY ω) q) 9 2 (s + 6 + cY ω) r) 9 3 (s + 6 + cY ω) u) 6 4 s = nI (cY ω) := by
    simp only [ka_ii]
    simp [d0, hI.y0]
  unfold f_X6_addYarn
  rw [d0, hI.y0, if_pos (show nI (cY ω) < 10 from nI_lt (b := 10) h (by decide)), hF.rf.1, ka_bs, hF.y h, ka_letE, ka_letE, ka_letE, ka_letE, hx, nI_1, ka_letE]
  have hf : Fr (fun c => c = s ∨ c = s + 6 + cY ω) G (gsi (gsi (gsi (gsi (gsi G 9 0 (s + 6 + cY ω) p) 9 1 (s + 6 + cY ω) q) 9 2 (s + 6 + cY ω) r) 9 3 (s + 6 + cY ω) u) 6 4 s (nI (cY ω + 1))) := by
    have f1 : ∀ {G : gG} {k : Nat} {v : Int32}, Fr (fun c => c = s ∨ c = s + 6 + cY ω) G (gsi G 9 k (s + 6 + cY ω) v) := fun {G k v} => Fr.i (A := fun c => c = s ∨ c = s + 6 + cY ω) (Or.inr rfl)
    exact (((f1.tr f1).tr f1).tr f1).tr (Fr.i (A := fun c => c = s ∨ c = s + 6 + cY ω) (Or.inl rfl))
  refine ⟨_, rfl, ?_, hF, hf.mono fun c hc => by show s ≤ c ∧ c ≤ s + 31; omega⟩
  have X : ∀ {j : Nat}, j ≠ 0 → (j < 13 ∨ 53 ≤ j) → yaW ω p q r u j = ω j := fun {j} h0 h1 => yaW.xx h0 (by omega)
  refine vs_acts hI hV ?_ (fun i hi => ?_) (fun i hi => ?_) (fun i hi => ?_) (X (by decide) (by decide)) (fun j h1 h2 => X (by omega) (by omega)) (hf (s + 4) (by omega)) (hf (s + 5) (by omega))
  · rw [show yaW ω p q r u 0 = nI (cY ω + 1) from wSt_eq, X (j := 1) (by decide) (by decide), X (j := 2) (by decide) (by decide), X (j := 3) (by decide) (by decide), X (j := 6) (by decide) (by decide), X (j := 7) (by decide) (by decide), X (j := 5) (by decide) (by decide), X (j := 12) (by decide) (by decide), X (j := 10) (by decide) (by decide), X (j := 8) (by decide) (by decide), X (j := 9) (by decide) (by decide)]
    simp only [ka_ii]
    simp [d1, d2, d3, d4, d5, d6, d7, d8, d9, d10]
  · rw [yaW.c h] at hi
    by_cases hic : i = cY ω
    · subst hic
      obtain ⟨n0, n1, n2, n3⟩ := yaW.n (ω := ω) (p := p) (q := q) (r := r) (u := u)
      unfold YV
      rw [n0, n1, n2, n3]
      simp only [ka_ii]
      simp
    · exact (hV.yv (i := i) (by omega)).same (hf (s + 6 + i) (by omega)) fun k hk => yaW.xx (by omega) (by omega)
  · have e : cR (yaW ω p q r u) = cR ω := by unfold cR; rw [X (by decide) (by decide)]
    rw [e] at hi
    exact (hV.r hi).same (hf (s + 16 + i) (by omega)) fun k hk => X (by omega) (by omega)
  · have e : cO (yaW ω p q r u) = cO ω := by unfold cO; rw [X (by decide) (by decide)]
    rw [e] at hi
    exact (hV.ov hi).same (hf (s + 24 + i) (by omega)) fun k hk => X (by omega) (by omega)
theorem s_addOrder (hF : FS τ G s) (hV : VS G s ω) (hI : WI ω) (h : cO ω < 8) : gOk (f_X6_addOrder τ s p q r G) (fun G' => VS G' s (oaW ω p q r) ∧ FS τ G' s ∧ Fr (spn s) G G') := by
  have hro := hI.r1
  have hyo := hI.y1
  obtain ⟨d0, d1, d2, d3, d4, d5, d6, d7, d8, d9, d10⟩ := hV.cn
  have hx : gi (gsi (gsi (gsi G 4 0 (s + 24 + cO ω) p) 4 1 (s + 24 + cO ω) q) 4 2 (s + 24 + cO ω) r) 6 6 s = nI (cO ω) := by
    simp only [ka_ii]
    simp [d2, hI.o0]
  unfold f_X6_addOrder
  rw [d2, hI.o0, if_pos (show nI (cO ω) < 8 from nI_lt (b := 8) h (by decide)), hF.rf.2.2.1, ka_bs, hF.o h, ka_letE, ka_letE, ka_letE, hx, nI_1, ka_letE]
  have hf : Fr (fun c => c = s ∨ c = s + 24 + cO ω) G (gsi (gsi (gsi (gsi G 4 0 (s + 24 + cO ω) p) 4 1 (s + 24 + cO ω) q) 4 2 (s + 24 + cO ω) r) 6 6 s (nI (cO ω + 1))) := by
    have f1 : ∀ {G : gG} {k : Nat} {v : Int32}, Fr (fun c => c = s ∨ c = s + 24 + cO ω) G (gsi G 4 k (s + 24 + cO ω) v) := fun {G k v} => Fr.i (A := fun c => c = s ∨ c = s + 24 + cO ω) (Or.inr rfl)
    exact ((f1.tr f1).tr f1).tr (Fr.i (A := fun c => c = s ∨ c = s + 24 + cO ω) (Or.inl rfl))
  refine ⟨_, rfl, ?_, hF, hf.mono fun c hc => by show s ≤ c ∧ c ≤ s + 31; omega⟩
  have X : ∀ {j : Nat}, j ≠ 2 → (j < 143 ∨ 167 ≤ j) → oaW ω p q r j = ω j := fun {j} h0 h1 => oaW.xx h0 (by omega)
  refine vs_acts hI hV ?_ (fun i hi => ?_) (fun i hi => ?_) (fun i hi => ?_) (X (by decide) (by decide)) (fun j h1 h2 => X (by omega) (by omega)) (hf (s + 4) (by omega)) (hf (s + 5) (by omega))
  · rw [show oaW ω p q r 2 = nI (cO ω + 1) from wSt_eq, X (j := 0) (by decide) (by decide), X (j := 1) (by decide) (by decide), X (j := 3) (by decide) (by decide), X (j := 6) (by decide) (by decide), X (j := 7) (by decide) (by decide), X (j := 5) (by decide) (by decide), X (j := 12) (by decide) (by decide), X (j := 10) (by decide) (by decide), X (j := 8) (by decide) (by decide), X (j := 9) (by decide) (by decide)]
    simp only [ka_ii]
    simp [d0, d1, d3, d4, d5, d6, d7, d8, d9, d10]
  · have e : cY (oaW ω p q r) = cY ω := by unfold cY; rw [X (by decide) (by decide)]
    rw [e] at hi
    exact (hV.yv hi).same (hf (s + 6 + i) (by omega)) fun k hk => X (by omega) (by omega)
  · have e : cR (oaW ω p q r) = cR ω := by unfold cR; rw [X (by decide) (by decide)]
    rw [e] at hi
    exact (hV.r hi).same (hf (s + 16 + i) (by omega)) fun k hk => X (by omega) (by omega)
  · rw [oaW.c h] at hi
    by_cases hic : i = cO ω
    · subst hic
      obtain ⟨n0, n1, n2⟩ := oaW.n (ω := ω) (p := p) (q := q) (r := r)
      unfold OV
      rw [n0, n1, n2]
      simp only [ka_ii]
      simp
    · exact (hV.ov (i := i) (by omega)).same (hf (s + 24 + i) (by omega)) fun k hk => oaW.xx (by omega) (by omega)
/-- a Shed's gale or damp is set -/
theorem s_gd (hV : VS G s ω) (hI : WI ω) {c k : Nat} (hk : (c = 8 ∧ k = 6) ∨ (c = 9 ∧ k = 7)) : VS (gsi G 6 c s v) s (wSt ω k v) := by
  obtain ⟨d0, d1, d2, d3, d4, d5, d6, d7, d8, d9, d10⟩ := hV.cn
  have hro := hI.r1
  have hyo := hI.y1
  have hoo := hI.o1
  have X : ∀ {j : Nat}, j ≠ k → wSt ω k v j = ω j := fun h => wSt_ne h
  have cy : cY (wSt ω k v) = cY ω := by unfold cY; rw [X (by omega)]
  have cr : cR (wSt ω k v) = cR ω := by unfold cR; rw [X (by omega)]
  have co : cO (wSt ω k v) = cO ω := by unfold cO; rw [X (by omega)]
  have hf : Fr (fun b => b = s) G (gsi G 6 c s v) := Fr.i rfl
  refine vs_acts hI hV ?_ (fun i hi => ?_) (fun i hi => ?_) (fun i hi => ?_) (X (by omega)) (fun j h1 h2 => X (by omega)) (hf (s + 4) (by omega)) (hf (s + 5) (by omega))
  · rcases hk with ⟨rfl, rfl⟩ | ⟨rfl, rfl⟩
    · rw [wSt_eq, X (j := 0) (by decide), X (j := 1) (by decide), X (j := 2) (by decide), X (j := 3) (by decide), X (j := 7) (by decide), X (j := 5) (by decide), X (j := 12) (by decide), X (j := 10) (by decide), X (j := 8) (by decide), X (j := 9) (by decide)]
      simp only [ka_ii]
      simp [d0, d1, d2, d3, d5, d6, d7, d8, d9, d10]
    · rw [wSt_eq, X (j := 0) (by decide), X (j := 1) (by decide), X (j := 2) (by decide), X (j := 3) (by decide), X (j := 6) (by decide), X (j := 5) (by decide), X (j := 12) (by decide), X (j := 10) (by decide), X (j := 8) (by decide), X (j := 9) (by decide)]
      simp only [ka_ii]
      simp [d0, d1, d2, d3, d4, d6, d7, d8, d9, d10]
  · rw [cy] at hi
    exact (hV.yv hi).same (hf (s + 6 + i) (by omega)) fun k hk => X (by omega)
  · rw [cr] at hi
    exact (hV.r hi).same (hf (s + 16 + i) (by omega)) fun k hk => X (by omega)
  · rw [co] at hi
    exact (hV.ov hi).same (hf (s + 24 + i) (by omega)) fun k hk => X (by omega)
end
