/-! AN ACT WRITES THE WORLD -/
section
variable {ω ω' : gW}
theorem ty_of (h : ∀ j, 467 ≤ j → ω' j = ω j) (b : Nat) : ∀ k, tyR ω' b k = tyR ω b k := by
  intro k
  induction k with
  | zero => rfl
  | succ k ih =>
    show (tyR ω' b k).bind (tyS (sc ω' (b + k))) = (tyR ω b k).bind (tyS (sc ω (b + k)))
    rw [ih, show sc ω' (b + k) = sc ω (b + k) from h _ (by omega)]
theorem li_of (h4 : ω' 4 = ω 4) (h : ∀ j, 467 ≤ j → ω' j = ω j) (hI : LI ω) : LI ω' := by
  have e_sc : ∀ k, sc ω' k = sc ω k := fun k => h _ (by omega)
  have e_sn : ∀ k, sn ω' k = sn ω k := fun k => h _ (by omega)
  have e_lw : ∀ k j, lw ω' k j = lw ω k j := fun k j => h _ (by omega)
  have e_lb : ∀ k, lb ω' k = lb ω k := fun k => by unfold lb; rw [e_lw]
  have e_le : ∀ k, le ω' k = le ω k := fun k => by unfold le; rw [e_lw]
  have e_n : cLn ω' = cLn ω := by unfold cLn; rw [h 467 (by omega)]
  unfold LI at hI ⊢
  rw [h4, h 467 (by omega), e_n]
  intro h4
  obtain ⟨a, b, c⟩ := hI h4
  refine ⟨a, b, fun ln hl => ?_⟩
  obtain ⟨c1, c2, c3, ⟨d1, d2, d3, d4, d5⟩, c5⟩ := c ln hl
  rw [e_lw, e_lw, e_lw, e_lw, e_lb, e_le, e_le]
  refine ⟨c1, c2, c3, ⟨d1, d2, ?_, fun k hk => ?_, fun k h1 h2 => ?_⟩, c5⟩
  · rw [ty_of h]; exact d3
  · rw [ty_of h]; exact d4 k hk
  · have := d5 k h1 h2
    unfold stV at this ⊢
    rw [e_sc, e_sn]
    exact this
theorem lv_of (h4 : ω' 4 = ω 4) (h : ∀ j, 467 ≤ j → ω' j = ω j) {G : gG} {l : Nat} (hV : LV G l ω) : LV G l ω' := by
  have e_sc : ∀ k, sc ω' k = sc ω k := fun k => h _ (by omega)
  have e_sn : ∀ k, sn ω' k = sn ω k := fun k => h _ (by omega)
  have e_lw : ∀ k j, lw ω' k j = lw ω k j := fun k j => h _ (by omega)
  have e_lb : ∀ k, lb ω' k = lb ω k := fun k => by unfold lb; rw [e_lw]
  have e_le : ∀ k, le ω' k = le ω k := fun k => by unfold le; rw [e_lw]
  have e_n : cLn ω' = cLn ω := by unfold cLn; rw [h 467 (by omega)]
  unfold LV at hV ⊢
  simp only [h4, h 467 (by omega), e_n, e_lw, e_lb, e_le, e_sc, e_sn]
  exact hV
theorem iv_of {im : Option gW} {me : List gW} {ta : List Nat} (hI : IV ω im me ta) (hw : WI ω') (h4 : ω' 4 = ω 4) (h : ∀ j, 467 ≤ j → ω' j = ω j) : IV ω' im me ta := by
  obtain ⟨a, b, c, ⟨d, e⟩, f⟩ := hI
  exact ⟨hw, li_of h4 h b, c, ⟨d, fun j w hj => ⟨(e j w hj).1, by rw [(e j w hj).2, h4]⟩⟩, f⟩
/-- worlds alike but for rope k -/
def RE (k : Nat) (ω ω' : gW) : Prop := ∀ j, j < 53 + 10 * k ∨ 63 + 10 * k ≤ j → ω' j = ω j
theorem RE.cs {k : Nat} (h : RE k ω ω') (hk : k < 8) : cY ω' = cY ω ∧ cR ω' = cR ω ∧ cO ω' = cO ω ∧ cL ω' = cL ω := by
  unfold cY cR cO cL
  rw [h 0 (by omega), h 1 (by omega), h 2 (by omega), h 11 (by omega)]
  exact ⟨rfl, rfl, rfl, rfl⟩
theorem RE.r {k : Nat} (h : RE k ω ω') {i : Nat} (hi : i ≠ k) {j : Nat} (hj : j < 10) : rv ω' i j = rv ω i j := h _ (by omega)
theorem rok_of {i : Nat} (hy : cY ω' = cY ω) (h : ∀ j, j < 10 → rv ω' i j = rv ω i j) (hK : ROK ω i) : ROK ω' i := by
  unfold ROK ry at hK ⊢
  rw [h 0 (by decide), h 1 (by decide), h 2 (by decide), h 3 (by decide), h 4 (by decide), h 5 (by decide), h 6 (by decide), h 7 (by decide), h 8 (by decide), h 9 (by decide), hy]
  exact hK
theorem RE.wi {k : Nat} (h : RE k ω ω') (hk : k < cR ω) (hI : WI ω) (hK : ROK ω' k) : WI ω' := by
  have hr := hI.r1
  obtain ⟨⟨⟨a1, a2⟩, ⟨b1, b2⟩, c1, c2⟩, ⟨d1, d2, d3, d4, d5, d6, d7⟩, e1, e2, e3⟩ := hI
  obtain ⟨q1, q2, q3, q4⟩ := h.cs (by omega)
  unfold WI
  rw [q1, q2, q3, q4, h 0 (by omega), h 1 (by omega), h 2 (by omega), h 3 (by omega), h 4 (by omega), h 5 (by omega), h 6 (by omega), h 7 (by omega), h 11 (by omega)]
  refine ⟨⟨⟨a1, a2⟩, ⟨b1, b2⟩, c1, c2⟩, ⟨d1, d2, d3, d4, d5, d6, d7⟩, fun i hi => ?_, fun i hi => ?_, fun i hi => ?_⟩
  · have := e1 i hi
    unfold YOK yv at this ⊢
    rw [h _ (by omega), h _ (by omega), h _ (by omega), h _ (by omega)]
    exact this
  · by_cases hik : i = k
    · rw [hik]; exact hK
    · exact rok_of q1 (fun j hj => h.r hik hj) (e2 i hi)
  · have := e3 i hi
    unfold OOK ov at this ⊢
    rw [h _ (by omega), h _ (by omega), h _ (by omega)]
    exact this
theorem RE.vs {k : Nat} (h : RE k ω ω') (hk : k < cR ω) (hI : WI ω) {G G' : gG} {s : Nat} (hV : VS G s ω) (hf : Fr (fun b => b = s + 16 + k) G G') (hR : RV G' (s + 16 + k) ω' k) : VS G' s ω' := by
  have hr := hI.r1
  have hy := hI.y1
  have ho := hI.o1
  obtain ⟨a, b, c, d, ⟨l1, nx, l2, l3, l4⟩⟩ := hV
  obtain ⟨q1, q2, q3, q4⟩ := h.cs (by omega)
  refine ⟨?_, fun i hi => ?_, fun i hi => ?_, fun i hi => ?_, ?_, nx, l2, ?_, fun q w hq hw => ?_⟩
  · simp only [(hf s (by omega)).1]
    rw [h 0 (by omega), h 1 (by omega), h 2 (by omega), h 3 (by omega), h 5 (by omega), h 6 (by omega), h 7 (by omega), h 8 (by omega), h 9 (by omega), h 10 (by omega), h 12 (by omega)]; exact a
  · rw [q1] at hi
    have := b i hi
    unfold YV yv at this ⊢
    simp only [(hf (s + 6 + i) (by omega)).1]
    rw [h _ (by omega), h _ (by omega), h _ (by omega), h _ (by omega)]
    exact this
  · rw [q2] at hi
    by_cases hik : i = k
    · rw [hik]; exact hR
    · have := (hf (s + 16 + i) (by omega)).vr (c i hi)
      unfold RV at this ⊢
      rw [h.r (j := 0) hik (by decide), h.r (j := 1) hik (by decide), h.r (j := 2) hik (by decide), h.r (j := 3) hik (by decide), h.r (j := 4) hik (by decide), h.r (j := 5) hik (by decide), h.r (j := 6) hik (by decide), h.r (j := 7) hik (by decide), h.r (j := 8) hik (by decide), h.r (j := 9) hik (by decide)]
      exact this
  · rw [q3] at hi
    have := d i hi
    unfold OV ov at this ⊢
    simp only [(hf (s + 24 + i) (by omega)).1]
    rw [h _ (by omega), h _ (by omega), h _ (by omega)]
    exact this
  · rw [(hf (s + 4) (by omega)).1, h 11 (by omega)]; exact l1
  · rw [(hf (s + 4) (by omega)).1]; exact l3
  · rw [q4] at hq
    rw [(hf (s + 5) (by omega)).2.2.1, h (167 + 5 * q + w) (by omega)]
    exact l4 q w hq hw
end
section
variable {τ : gτ} {n : Nat} {G G' : gG} {x m s t l l' o : Nat} {ω ω' : gW} {im : Option gW} {me : List gW} {ta : List Nat} {fa : Int32}
/-- an act writes the Shed that is -/
theorem CV.world (h : CV τ G x s t l l' ω im me ta fa) (hI : IV ω im me ta) (hf : Fr (spn s) G G') (hF : FS τ G' s) (hV' : VS G' s ω') (h4 : ω' 4 = ω 4) (h467 : ∀ j, 467 ≤ j → ω' j = ω j) : CV τ G' x s t l l' ω' im me ta fa := by
  have hsl := h.sl
  obtain ⟨hX, hV, hLV, ⟨i1, i2⟩, ⟨nx, m1, m2, m3, m4⟩, ⟨t1, t2⟩, t3⟩ := h
  obtain ⟨hI, hL, hIm, ⟨hm1, hm2⟩, -⟩ := hI
  have nA : ∀ b, x ≤ b → b ≤ x + 427 → ¬ spn s b := fun b h1 h2 h3 => by have h3 : s ≤ b ∧ b ≤ s + 31 := h3; omega
  have nL : ∀ b, x + 498 ≤ b → ¬ spn s b := fun b h1 h3 => by have h3 : s ≤ b ∧ b ≤ s + 31 := h3; omega
  have q := fun b h1 h2 => hf b (nA b h1 h2)
  have hX' : FX τ G x t s l l' → FX τ G' x t s l l' := fun hX2 => FX.fr hf hX2 nA (fun b h1 h2 => by
    by_cases hb : s ≤ b ∧ b ≤ s + 31
    · exact Or.inr hb
    · exact Or.inl hb) (fun b h1 h2 => nL b (by omega)) hF
  have hX2 : FX τ G' x s t l l' := by
    obtain ⟨h1, h2, h3, h4, ⟨f1, f2, f3, f4⟩, ⟨g1, g2, g3⟩, h7, h8⟩ := hX
    refine ⟨?_, ?_, h3, fun k hk => ?_, ⟨?_, ?_, ?_, fun k hk => ?_⟩, ⟨?_, ?_, ?_⟩, h7, h8⟩
    · simp only [(q x (by omega) (by omega)).2.1]; exact h1
    · rw [(q (x + 1) (by omega) (by omega)).2.1, (q (x + 3) (by omega) (by omega)).2.1, (q (x + 4) (by omega) (by omega)).2.1, (q (x + 5) (by omega) (by omega)).2.1]; exact h2
    · rw [(q (x + 6) (by omega) (by omega)).2.2.2.1]; exact h4 k hk
    · rcases h7 with ⟨hs, -⟩ | ⟨hs, -⟩
      · rw [← hs]; exact hF
      · exact hf.fs f1 fun b c1 c2 h3 => by have h3 : s ≤ b ∧ b ≤ s + 31 := h3; omega
    · rcases h7 with ⟨hs, -⟩ | ⟨hs, -⟩
      · exact hf.fs f2 fun b c1 c2 h3 => by have h3 : s ≤ b ∧ b ≤ s + 31 := h3; omega
      · rw [← hs]; exact hF
    · exact hf.fs f3 fun b c1 c2 => nA b (by omega) (by omega)
    · exact hf.fs (f4 k hk) fun b c1 c2 => nA b (by omega) (by omega)
    · exact hf.fl g1 (nA _ (by omega) (by omega))
    · exact hf.fl g2 (nL _ (by omega))
    · exact hf.fl g3 (nL _ (by omega))
  refine ⟨hX2, hV', lv_of h4 h467 (hf.lv hLV fun b h1 h2 => nL b (by omega)), ⟨?_, fun w h' => ?_⟩, ⟨nx, m1, ?_, ?_, fun j w hj => ?_⟩, ⟨?_, fun j b hj => ?_⟩, ?_⟩
  · rw [(q x (by omega) (by omega)).1]; exact i1
  · obtain ⟨a, b⟩ := i2 w h'
    exact ⟨hf.vs (hIm w h').1 a fun b h1 h2 => nA b (by omega) (by omega), hf.lv b fun b h1 h2 => nA b (by omega) (by omega)⟩
  · rw [(q (x + 5) (by omega) (by omega)).1]; exact m2
  · rw [(q (x + 5) (by omega) (by omega)).1]; exact m3
  · have : (nx + 12 - me.length + j) % 12 < 12 := Nat.mod_lt _ (by decide)
    exact hf.vs (hm2 j w hj).1 (m4 j w hj) fun b h1 h2 => nA b (by omega) (by omega)
  · rw [(q (x + 1) (by omega) (by omega)).1]; exact t1
  · rw [(q (x + 2) (by omega) (by omega)).2.2.1]; exact t2 j b hj
  · rw [(q (x + 1) (by omega) (by omega)).1]; exact t3
/-- an act writes one rope -/
theorem CV.rope (h : CV τ G x s t l l' ω im me ta fa) (hI : IV ω im me ta) {k : Nat} (hk : k < cR ω) (hRE : RE k ω ω') (hf : Fr (fun b => b = s + 16 + k) G G') (hR : RV G' (s + 16 + k) ω' k) : CV τ G' x s t l l' ω' im me ta fa := by
  have hr := hI.1.r1
  exact h.world hI (hf.mono fun b hb => by show s ≤ b ∧ b ≤ s + 31; omega) (h.fs.1.to hf fun c h1 h2 h3 => by omega) (hRE.vs hk hI.1 h.vs hf hR) (hRE 4 (by omega)) (fun j hj => hRE j (by omega))
theorem RE.iv {k : Nat} (hRE : RE k ω ω') (hI : IV ω im me ta) (hk : k < cR ω) (hK : ROK ω' k) : IV ω' im me ta := by
  have hr := hI.1.r1
  exact iv_of hI (hRE.wi hk hI.1 hK) (hRE 4 (by omega)) (fun j hj => hRE j (by omega))
theorem MV.world (h : MV τ G m ω im me ta fa) (hf : Fr (fun b => b = m + 1) G G') (hω : ge G' (m + 1) = ω') : MV τ G' m ω' im me ta fa := by
  obtain ⟨hM, -, ⟨i1, i2⟩, ⟨m1, m2⟩, ⟨t1, t2⟩, t3⟩ := h
  have q := hf m (by omega)
  refine ⟨hf.fm hM (by omega), hω, ⟨?_, fun w h' j hj => ?_⟩, ⟨?_, fun j w hj i hi => ?_⟩, ⟨?_, fun j b hj => ?_⟩, ?_⟩
  · rw [q.1]; exact i1
  · rw [(hf (m + 2) (by omega)).2.2.1]; exact i2 w h' j hj
  · rw [q.1]; exact m1
  · rw [(hf (m + 5) (by omega)).2.2.1]; exact m2 j w hj i hi
  · rw [q.1]; exact t1
  · rw [(hf (m + 6) (by omega)).2.2.1]; exact t2 j b hj
  · rw [q.1]; exact t3
/-- one cell written -/
def wSt (ω : gW) (j : Nat) (v : Int32) : gW := fun i => if i = j then v else ω i
theorem ge_wSt {j : Nat} {v : Int32} : ge (gse G (m + 1) j v) (m + 1) = wSt (ge G (m + 1)) j v := by
  funext i
  show (if m + 1 = m + 1 ∧ i = j then v else ge G (m + 1) i) = _
  unfold wSt
  by_cases h : i = j
  · rw [if_pos ⟨rfl, h⟩, if_pos h]
  · rw [if_neg (fun e => h e.2), if_neg h]
theorem rv_wSt {i j i' j' : Nat} {v : Int32} (hj : j < 10) (hj' : j' < 10) : rv (wSt ω (53 + 10 * i + j) v) i' j' = if i' = i ∧ j' = j then v else rv ω i' j' := by
  unfold rv wSt
  by_cases h : i' = i ∧ j' = j
  · rw [if_pos h, if_pos (by rw [h.1, h.2])]
  · rw [if_neg h, if_neg (by omega)]
theorem RE.st {k j : Nat} {v : Int32} (h : RE k ω ω') (hj : j < 10) : RE k ω (wSt ω' (53 + 10 * k + j) v) := fun i hi => by
  unfold wSt
  rw [if_neg (by omega)]
  exact h i hi
theorem RE.rf {k : Nat} : RE k ω ω := fun _ _ => rfl
theorem m_at {k j : Nat} (hk : k < 9) {w : Int32} (hw : w = nI j) : f_X11_at (nI k) w = some (nI (53 + 10 * k + j)) := by
  subst hw
  unfold f_X11_at
  rw [show (53 : Int32) = nI 53 from rfl, show (10 : Int32) = nI 10 from rfl, pk_mul, nI_add, nI_add]
end
