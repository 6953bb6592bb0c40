/-! CALLS: walk -/
section
variable {τ : gτ} {n : Nat} {G G' : gG} {x m s t l l' o f c : Nat} {ω ω' : gW} {im : Option gW} {me : List gW} {ta : List Nat} {fa fa' : Int32}
theorem FS.gg {a : Nat} (h : FS τ G a) (hr : ∀ c k d, c ≠ 10 → gr G' c k d = gr G c k d) (hq : ∀ d, gq G' d = gq G d) : FS τ G' a := by
  unfold FS at h ⊢
  rw [hr 6 0 a (by decide), hr 6 1 a (by decide), hr 6 2 a (by decide), hr 6 3 a (by decide), hr 0 0 (a + 4) (by decide), hq, hq, hq]
  exact h
theorem FL.gg {a : Nat} (h : FL τ G a) (hr : ∀ c k d, c ≠ 10 → gr G' c k d = gr G c k d) : FL τ G' a := by
  unfold FL at h ⊢
  rw [hr 1 0 a (by decide), hr 1 1 a (by decide), hr 1 2 a (by decide), hr 1 3 a (by decide), hr 1 4 a (by decide), hr 1 5 a (by decide)]
  exact h
/-- a text has been read into the spare Shed -/
theorem CV.read (h : CV τ G x s t l l' ω im me ta fa) (hI : IV ω im me ta) (hf : Fr (fun b => b = x + 1 ∨ b = x + 3 ∨ (t ≤ b ∧ b ≤ t + 31)) G G') (h70 : gr G' 7 0 (x + 1) = some (x + 2)) (h80 : gr G' 8 0 (x + 3) = some (x + 1)) (hF : FS τ G' t) (h71 : gi G' 7 1 (x + 1) = 0) (hfa : gi G' 7 2 (x + 1) = fa') : CV τ G' x s t l l' ω im me [] fa' := by
  have hsl := h.sl
  obtain ⟨hX, hV, hLV, ⟨i1, i2⟩, ⟨nx, m1, m2, m3, m4⟩, -, -⟩ := h
  obtain ⟨hI, hL, hIm, ⟨hm1, hm2⟩, -⟩ := hI
  obtain ⟨h1, ⟨h2a, h2b, h2c, h2d⟩, h3, h4, ⟨f1, f2, f3, f4⟩, ⟨g1, g2, g3⟩, h7, h8⟩ := hX
  refine ⟨⟨?_, ⟨h70, h80, ?_, ?_⟩, h3, fun k hk => ?_, ⟨?_, ?_, ?_, fun k hk => ?_⟩, ⟨?_, ?_, ?_⟩, h7, h8⟩, hf.vs hI hV fun b c1 c2 => by omega, hf.lv hLV fun b c1 c2 => by omega, ⟨?_, fun w h' => ?_⟩, ⟨nx, m1, ?_, ?_, fun j w hj => ?_⟩, ⟨h71, fun j b hj => by cases hj⟩, hfa⟩
  · simp only [(hf x (by omega)).2.1]; exact h1
  · rw [(hf (x + 4) (by omega)).2.1]; exact h2c
  · rw [(hf (x + 5) (by omega)).2.1]; exact h2d
  · rw [(hf (x + 6) (by omega)).2.2.2.1]; exact h4 k hk
  · by_cases e : t = x + 434
    · rw [← e]; exact hF
    · exact hf.fs f1 fun b c1 c2 => by omega
  · by_cases e : t = x + 466
    · rw [← e]; exact hF
    · exact hf.fs f2 fun b c1 c2 => by omega
  · exact hf.fs f3 fun b c1 c2 => by omega
  · exact hf.fs (f4 k hk) fun b c1 c2 => by omega
  · exact hf.fl g1 (by omega)
  · exact hf.fl g2 (by omega)
  · exact hf.fl g3 (by omega)
  · rw [(hf x (by omega)).1]; exact i1
  · obtain ⟨a, b⟩ := i2 w h'
    exact ⟨hf.vs (hIm w h').1 a fun b c1 c2 => by omega, hf.lv b fun b c1 c2 => by omega⟩
  · rw [(hf (x + 5) (by omega)).1]; exact m2
  · rw [(hf (x + 5) (by omega)).1]; exact m3
  · exact hf.vs (hm2 j w hj).1 (m4 j w hj) fun b c1 c2 => by omega
/-- one text more -/
theorem txW.wi (hI : WI ω) (hc : c ≤ 12) : WI (wSt ω 3 (nI c)) := by
  have X : ∀ {j : Nat}, j ≠ 3 → wSt ω 3 (nI c) j = ω j := fun h => wSt_ne h
  have cy : cY (wSt ω 3 (nI c)) = cY ω := by unfold cY; rw [X (by omega)]
  have cr : cR (wSt ω 3 (nI c)) = cR ω := by unfold cR; rw [X (by omega)]
  have co : cO (wSt ω 3 (nI c)) = cO ω := by unfold cO; rw [X (by omega)]
  have cl : cL (wSt ω 3 (nI c)) = cL ω := by unfold cL; rw [X (by omega)]
  obtain ⟨a, ⟨d1, d2, d3, d4, d5, d6, d7⟩, -⟩ := id hI
  refine ⟨?_, ⟨?_, ?_, ?_, ?_, ?_, ?_, ?_⟩, fun i hi => ?_, fun i hi => ?_, fun i hi => ?_⟩
  · rw [cy, cr, co, X (by omega), X (by omega), X (by omega)]; exact a
  · rw [wSt_eq]; exact ⟨c, Nat.zero_le _, hc, rfl⟩
  · rw [X (by omega)]; exact d2
  · rw [X (by omega)]; exact d3
  · rw [X (by omega)]; exact d4
  · rw [X (by omega)]; exact d5
  · rw [cl, X (by omega)]; exact d6
  · rw [cl]; exact d7
  · rw [cy] at hi
    exact (hI.y hi).mv fun k hk => X (by omega)
  · rw [cr] at hi
    exact rok_mn (hI.r hi) (by omega) fun j hj => X (by omega)
  · rw [co] at hi
    exact (hI.o hi).mv fun k hk => X (by omega)
theorem s_tx {v : Int32} (hV : VS G s ω) (hI : WI ω) : VS (gsi G 6 7 s v) s (wSt ω 3 v) := by
  obtain ⟨d0, d1, d2, d3, d4, d5, d6, d7, d8, d9, d10⟩ := hV.cn
  have X : ∀ {j : Nat}, j ≠ 3 → wSt ω 3 v j = ω j := fun h => wSt_ne h
  have cy : cY (wSt ω 3 v) = cY ω := by unfold cY; rw [X (by omega)]
  have cr : cR (wSt ω 3 v) = cR ω := by unfold cR; rw [X (by omega)]
  have co : cO (wSt ω 3 v) = cO ω := by unfold cO; rw [X (by omega)]
  have hf : Fr (fun b => b = s) G (gsi G 6 7 s v) := Fr.i rfl
  refine vs_acts hI hV ?_ (fun i hi => ?_) (fun i hi => ?_) (fun i hi => ?_) (X (by omega)) (fun j h1 h2 => X (by omega)) (hf (s + 4) (by omega)) (hf (s + 5) (by omega))
  · rw [wSt_eq, X (j := 0) (by decide), X (j := 1) (by decide), X (j := 2) (by decide), X (j := 6) (by decide), X (j := 7) (by decide), X (j := 5) (by decide), X (j := 12) (by decide), X (j := 10) (by decide), X (j := 8) (by decide), X (j := 9) (by decide)]
    simp only [ka_ii]
    simp [d0, d1, d2, d4, d5, d6, d7, d8, d9, d10]
  · rw [cy] at hi
    exact (hV.yv hi).same (hf (s + 6 + i) (by omega)) fun k hk => X (by omega)
  · rw [cr] at hi
    exact (hV.r hi).same (hf (s + 16 + i) (by omega)) fun k hk => X (by omega)
  · rw [co] at hi
    exact (hV.ov hi).same (hf (s + 24 + i) (by omega)) fun k hk => X (by omega)
theorem CV.swap {v : Int32} (h : CV τ G x s t l l' ω im me [] fa) (hI : IV ω im me ta) (hV' : VS G t ω') (hW : WI ω') (hWv : WI (wSt ω' 3 v)) (h4 : ω' 4 = ω 4) (h467 : ∀ j, 467 ≤ j → ω' j = ω j) : CV τ (gsi (gsi (gsr (gsr G 10 10 x (some t)) 10 11 x (some s)) 6 7 t v) 3 1 (x + 5) 0) x t s l l' (wSt ω' 3 v) im [] [] fa := by
  have hsl := h.sl
  have hF := h.fs
  obtain ⟨hX, hV, hLV, ⟨i1, i2⟩, ⟨nx, m1, m2, m3, m4⟩, ⟨t1, t2⟩, t3⟩ := h
  obtain ⟨hI, hL, hIm, ⟨hm1, hm2⟩, -⟩ := hI
  obtain ⟨h1, ⟨h2a, h2b, h2c, h2d⟩, h3, h4', ⟨f1, f2, f3, f4⟩, ⟨g1, g2, g3⟩, h7, h8⟩ := hX
  have hr : ∀ c k d, c ≠ 10 → gr (gsi (gsi (gsr (gsr G 10 10 x (some t)) 10 11 x (some s)) 6 7 t v) 3 1 (x + 5) 0) c k d = gr G c k d := fun c k d hc => by
    show gr (gsr (gsr G 10 10 x (some t)) 10 11 x (some s)) c k d = _
    rw [ka_rr, if_neg (fun e => hc e.1), ka_rr, if_neg (fun e => hc e.1)]
  have hq : ∀ d, gq (gsi (gsi (gsr (gsr G 10 10 x (some t)) 10 11 x (some s)) 6 7 t v) 3 1 (x + 5) 0) d = gq G d := fun _ => rfl
  have hx : ∀ k, gr (gsi (gsi (gsr (gsr G 10 10 x (some t)) 10 11 x (some s)) 6 7 t v) 3 1 (x + 5) 0) 10 k x = if k = 11 then some s else if k = 10 then some t else gr G 10 k x := fun k => by
    show gr (gsr (gsr G 10 10 x (some t)) 10 11 x (some s)) 10 k x = _
    rw [ka_rr, ka_rr]
    by_cases e1 : k = 11
    · rw [if_pos ⟨rfl, e1, rfl⟩, if_pos e1]
    · rw [if_neg (fun e => e1 e.2.1), if_neg e1]
      by_cases e2 : k = 10
      · rw [if_pos ⟨rfl, e2, rfl⟩, if_pos e2]
      · rw [if_neg (fun e => e2 e.2.1), if_neg e2]
  have hf : Fr (fun b => b = x ∨ b = t ∨ b = x + 5) G (gsi (gsi (gsr (gsr G 10 10 x (some t)) 10 11 x (some s)) 6 7 t v) 3 1 (x + 5) 0) := (((Fr.r (A := fun b => b = x ∨ b = t ∨ b = x + 5) (Or.inl rfl)).tr (Fr.r (A := fun b => b = x ∨ b = t ∨ b = x + 5) (Or.inl rfl))).tr (Fr.i (A := fun b => b = x ∨ b = t ∨ b = x + 5) (Or.inr (Or.inl rfl)))).tr (Fr.i (A := fun b => b = x ∨ b = t ∨ b = x + 5) (Or.inr (Or.inr rfl)))
  have hvt2 : VS (gsi (gsi (gsr (gsr G 10 10 x (some t)) 10 11 x (some s)) 6 7 t v) 3 1 (x + 5) 0) t (wSt ω' 3 v) := by
    have hv1 : VS (gsr (gsr G 10 10 x (some t)) 10 11 x (some s)) t ω' := ((Fr.r (A := fun b => b = x) rfl).tr (Fr.r (A := fun b => b = x) rfl)).vs hW hV' fun b c1 c2 => by omega
    exact (Fr.i (A := fun b => b = x + 5) rfl).vs hWv (s_tx hv1 hW) fun b c1 c2 => by omega
  have p31 : gi (gsi (gsi (gsr (gsr G 10 10 x (some t)) 10 11 x (some s)) 6 7 t v) 3 1 (x + 5) 0) 3 1 (x + 5) = nI 0 := by
    rw [ka_ii, if_pos ⟨rfl, rfl, rfl⟩]
    rfl
  have p32 : gi (gsi (gsi (gsr (gsr G 10 10 x (some t)) 10 11 x (some s)) 6 7 t v) 3 1 (x + 5) 0) 3 2 (x + 5) = nI nx := by
    rw [ka_ii, if_neg (fun h => absurd h.2.1 (by decide)), ka_ii, if_neg (fun h => absurd h.1 (by decide))]
    exact m3
  have px : gi (gsi (gsi (gsr (gsr G 10 10 x (some t)) 10 11 x (some s)) 6 7 t v) 3 1 (x + 5) 0) 10 14 x = isS im := by
    rw [ka_ii, if_neg (fun h => absurd h.1 (by decide)), ka_ii, if_neg (fun h => absurd h.1 (by decide))]
    exact i1
  generalize gsi (gsi (gsr (gsr G 10 10 x (some t)) 10 11 x (some s)) 6 7 t v) 3 1 (x + 5) 0 = G8 at hr hq hx hf hvt2 p31 p32 px
  have e34 : wSt ω' 3 v 4 = ω 4 := (wSt_ne (by omega)).trans h4
  have e3467 : ∀ j, 467 ≤ j → wSt ω' 3 v j = ω j := fun j hj => (wSt_ne (by omega)).trans (h467 j hj)
  refine ⟨⟨?_, ⟨?_, ?_, ?_, ?_⟩, h3, fun k hk => ?_, ⟨?_, ?_, ?_, fun k hk => ?_⟩, ⟨?_, ?_, ?_⟩, by omega, h8⟩, hvt2, lv_of e34 e3467 (hf.lv hLV fun b c1 c2 => by omega), ⟨px, fun w h' => ?_⟩, ⟨nx, m1, p31, p32, fun j w hj => by cases hj⟩, ⟨?_, fun j b hj => by cases hj⟩, ?_⟩
  · obtain ⟨a0, a1, a2, a3, a4, a5, a6, a7, a8, a9, a10, a11, a12, a13⟩ := h1
    rw [hx, hx, hx, hx, hx, hx, hx, hx, hx, hx, hx, hx, hx, hx]
    exact ⟨a0, a1, a2, a3, a4, a5, a6, a7, a8, a9, rfl, rfl, a12, a13⟩
  · rw [hr _ _ _ (by decide)]; exact h2a
  · rw [hr _ _ _ (by decide)]; exact h2b
  · rw [hr _ _ _ (by decide)]; exact h2c
  · rw [hr _ _ _ (by decide)]; exact h2d
  · rw [hq]; exact h4' k hk
  · exact f1.gg hr hq
  · exact f2.gg hr hq
  · exact f3.gg hr hq
  · exact (f4 k hk).gg hr hq
  · exact g1.gg hr
  · exact g2.gg hr
  · exact g3.gg hr
  · obtain ⟨a, b⟩ := i2 w h'
    exact ⟨hf.vs (hIm w h').1 a fun b c1 c2 => by omega, hf.lv b fun b c1 c2 => by omega⟩
  · rw [(hf (x + 1) (by omega)).1]; exact t1
  · rw [(hf (x + 1) (by omega)).1]; exact t3
theorem c_walk (hC : CV τ G x s t l l' ω im me ta fa) (hI : IV ω im me ta) (hn : 500 < n) (h3 : ω 3 = nI c) (hc : c ≤ 12) : gOk (f_X10_walk τ n x G) (fun q => Fr (fun b => x ≤ b ∧ b ≤ x + 511) G q.2 ∧ ((∃ f, (rdW (tbT ta) ta.length ω).1 = .inr f ∧ q.1 = .inl x_IAE ∧ CV τ q.2 x s t l l' ω im me [] (nI f)) ∨ ∃ b, (rdW (tbT ta) ta.length ω).1 = .inl b ∧ ((c = 12 ∧ q.1 = .inl x_UOE ∧ CV τ q.2 x s t l l' ω im me [] (-1)) ∨ (c < 12 ∧ q.1 = .inr (nI (c + 1)) ∧ CV τ q.2 x t s l l' (wSt (rdW (tbT ta) ta.length ω).2 3 (nI (c + 1))) im [] [] (-1))))) := by
  have hsl := hC.sl
  have hL := hI.2.2.2.2.1
  have hrf := hC.rf
  have hX2 := hC.1.2.1
  unfold f_X10_walk
  rw [hrf.2.2.2.2.2.2.2.2.2.2.2.1, ka_bs, hrf.2.2.2.2.2.2.2.2.2.2.1, ka_bs, ka_bind]
  refine gOk.mono (s_become hC.fs.2 hC.fs.1 hC.vs hI.1 (by omega) hn) fun G3 g3 => ?_
  obtain ⟨v3, s3, fr3⟩ := g3
  have fr3 : Fr (fun b => t ≤ b ∧ b ≤ t + 31) G G3 := fr3
  have q3 := (fr3 x (by omega)).2.1
  rw [q3, hrf.2.1, ka_bs, q3, hrf.2.2.2.2.2.2.2.2.2.2.2.1, ka_bs, ka_bind2]
  have hT3 : TB τ G3 x (tbT ta) ta.length := by
    have e1 := fr3 (x + 1) (by omega)
    have e2 := fr3 (x + 2) (by omega)
    exact ⟨⟨by rw [e1.2.1]; exact hX2.1, hC.1.2.2.1.1⟩, ⟨hL, by rw [e1.1]; exact hC.2.2.2.2.2.1.1⟩, fun j hj => ⟨by rw [e2.2.2.1]; exact hC.2.2.2.2.2.1.2 j _ (tbT_get hj), tbT_lt hI hj⟩⟩
  have h80 : gr G3 8 0 (x + 3) = some (x + 1) := by rw [(fr3 (x + 3) (by omega)).2.1]; exact hX2.2.1
  refine gOk.mono (c_read hT3 h80 s3 v3 hI.1 (by omega) hn) fun q hq => ?_
  obtain ⟨v6, G7⟩ := q
  obtain ⟨e6, G1, eG1, f7, r7, j7, v7⟩ := hq
  have e6 : v6 = isL (rdW (tbT ta) ta.length ω).1 := e6
  have f7 : CF x t G1 G7 := f7
  have r7 : RS τ G7 x t := r7
  have j7 : TJ τ G7 x (tbT ta) ta.length (rdW (tbT ta) ta.length ω).1 := j7
  have v7 : ∀ b, (rdW (tbT ta) ta.length ω).1 = .inl b → VS G7 t (rdW (tbT ta) ta.length ω).2 := v7
  have fr1 : Fr (fun b => b = x + 3) G3 G1 := by rw [eG1]; exact Fr.r rfl
  have fA : Fr (fun b => b = x + 1 ∨ b = x + 3 ∨ (t ≤ b ∧ b ≤ t + 31)) G G7 := ((fr3.mono fun b hb => Or.inr (Or.inr hb)).tr (fr1.mono fun b hb => Or.inr (Or.inl hb))).tr (Fr.mono f7 fun b hb => hb.elim Or.inl fun h => Or.inr (Or.inr h))
  have q7 := (fA x (by omega)).2.1
  show gOk ((gr G7 10 0 x).bind fun a8 => gLet (gsi G7 7 1 a8 0) fun G9 => if v6 = 0 then some ((.inl x_IAE : String ⊕ Int32), G9) else _) _
  rw [q7, hrf.1, ka_bs, ka_letE]
  have f9 : Fr (fun b => b = x + 1) G7 (gsi G7 7 1 (x + 1) 0) := Fr.i rfl
  have hC9 : ∀ {fa' : Int32}, gi G7 7 2 (x + 1) = fa' → CV τ (gsi G7 7 1 (x + 1) 0) x s t l l' ω im me [] fa' := fun {fa'} hfa => by
    refine hC.read hI (fA.tr (f9.mono fun b hb => Or.inl hb)) j7.tbb.1.1 r7.1.1 r7.2.1 (by rw [ka_ii, if_pos ⟨rfl, rfl, rfl⟩]) ?_
    rw [ka_ii, if_neg (fun h => absurd h.2.1 (by decide))]
    exact hfa
  have hFr9 : Fr (fun b => x ≤ b ∧ b ≤ x + 511) G (gsi G7 7 1 (x + 1) 0) := (fA.mono fun b hb => by omega).tr (f9.mono fun b hb => by omega)
  cases hr : (rdW (tbT ta) ta.length ω).1 with
  | inr f =>
    rw [hr] at e6 j7
    have e6 : v6 = 0 := e6
    rw [if_pos e6]
    exact ⟨_, rfl, hFr9, Or.inl ⟨f, rfl, rfl, hC9 j7.2.2⟩⟩
  | inl b =>
    have hnw := rdW_nw hI.1 hr
    have v7 := v7 b hr
    rw [hr] at e6 j7
    have e6 : v6 = 1 := e6
    have hC9 := hC9 j7.2.2.2
    have v9 : VS (gsi G7 7 1 (x + 1) 0) t (rdW (tbT ta) ta.length ω).2 := f9.vs hnw.1 v7 fun b c1 c2 => by omega
    rw [if_neg (by rw [e6]; exact ka_n10)]
    generalize gsi G7 7 1 (x + 1) 0 = G9 at f9 hC9 hFr9 v9
    show gOk ((gr G9 10 10 x).bind fun a10 => if gi G9 6 7 a10 < 12 then _ else some ((.inl x_UOE : String ⊕ Int32), G9)) _
    have hrf9 := hC9.rf
    rw [hrf9.2.2.2.2.2.2.2.2.2.2.1, ka_bs, hC9.vs.cn.2.2.2.1, h3]
    by_cases h12 : c = 12
    · subst h12
      rw [if_neg (show ¬ nI 12 < (12 : Int32) from nI_nlt (b := 12) (Nat.le_refl _) (by decide))]
      exact ⟨_, rfl, hFr9, Or.inr ⟨b, rfl, Or.inl ⟨rfl, rfl, hC9⟩⟩⟩
    · rw [if_pos (show nI c < (12 : Int32) from nI_lt (b := 12) (by omega) (by decide))]
      rw [ka_bs, hrf9.2.2.2.2.2.2.2.2.2.2.2.1, ka_bs, ka_letE, ka_letE]
      have e10 : gr (gsr (gsr G9 10 10 x (some t)) 10 11 x (some s)) 10 10 x = some t := by
        rw [ka_rr, if_neg (fun h => absurd h.2.1 (by decide)), ka_rr, if_pos ⟨rfl, rfl, rfl⟩]
      have e67 : gi (gsr (gsr G9 10 10 x (some t)) 10 11 x (some s)) 6 7 t + 1 = nI (c + 1) := by
        show gi G9 6 7 t + 1 = _
        rw [v9.cn.2.2.2.1, hnw.2.1, h3, nI_1]
      rw [e10, ka_bs, e67, ka_letE]
      have e103 : gr (gsi (gsr (gsr G9 10 10 x (some t)) 10 11 x (some s)) 6 7 t (nI (c + 1))) 10 3 x = some (x + 5) := by
        show gr (gsr (gsr G9 10 10 x (some t)) 10 11 x (some s)) 10 3 x = _
        rw [ka_rr, if_neg (fun h => absurd h.2.1 (by decide)), ka_rr, if_neg (fun h => absurd h.2.1 (by decide))]
        exact hrf9.2.2.2.1
      rw [e103, ka_bs]
      unfold f_X3_forget
      rw [ka_letE, ka_bs]
      have hsw := hC9.swap (v := nI (c + 1)) hI v9 hnw.1 (txW.wi hnw.1 (by omega)) hnw.2.2.1 hnw.2.2.2
      have frS : Fr (fun b => x ≤ b ∧ b ≤ x + 511) G9 (gsi (gsi (gsr (gsr G9 10 10 x (some t)) 10 11 x (some s)) 6 7 t (nI (c + 1))) 3 1 (x + 5) 0) := (((Fr.r (A := fun b => x ≤ b ∧ b ≤ x + 511) (by omega)).tr (Fr.r (A := fun b => x ≤ b ∧ b ≤ x + 511) (by omega))).tr (Fr.i (A := fun b => x ≤ b ∧ b ≤ x + 511) (by omega))).tr (Fr.i (A := fun b => x ≤ b ∧ b ≤ x + 511) (by omega))
      generalize gsi (gsi (gsr (gsr G9 10 10 x (some t)) 10 11 x (some s)) 6 7 t (nI (c + 1))) 3 1 (x + 5) 0 = G18 at hsw frS
      rw [hsw.rf.2.2.2.2.2.2.2.2.2.2.1, ka_bs, hsw.vs.cn.2.2.2.1]
      refine ⟨_, rfl, hFr9.tr frS, Or.inr ⟨b, rfl, Or.inr ⟨by omega, ?_, hsw⟩⟩⟩
      show Sum.inr (wSt (rdW (tbT ta) ta.length ω).2 3 (nI (c + 1)) 3) = (Sum.inr (nI (c + 1)) : String ⊕ Int32)
      rw [wSt_eq]
theorem op_walk (hm : m = x + 512) (ho : o = m + 11) (hτ : gn τ o = 1) (hn : 6000 < n) (hC : CV τ G x s t l l' ω im me ta fa) (hM : MV τ G m ω im me ta fa) (hI : IV ω im me ta) : gOk (f_L_walk τ n x o G) (fun q => gOk (f_X11_walk τ n m q.2) (fun p => q.1 = gi p.2 11 0 m ∧ (q.1 = 0 → gl p.2 o 0 = p.1.toInt64) ∧ ST τ x m p.2)) := by
  obtain ⟨c, -, hc, h3⟩ := hI.1.2.1.1
  have hIV : IV ω im me [] := by
    obtain ⟨a, b, c, d, -, -⟩ := hI
    exact ⟨a, b, c, d, Nat.zero_le _, fun b hb => by cases hb⟩
  unfold f_L_walk
  cases hr : (rdW (tbT ta) ta.length ω).1 with
  | inr f =>
    refine join_x (ω1 := ω) (im1 := im) (me1 := me) (ta1 := []) (fa1 := nI f) (s1 := s) (t1 := t) (l1 := l) (l1' := l') (ans := .inl x_IAE) (α := Unit) hm ho hτ (by decide) hM hIV ?_ (fun G1 hM1 => ?_)
    · refine gOk.mono (c_walk hC hI (by omega) h3 hc) fun q hq => ?_
      rcases hq with ⟨hf, ⟨f', e1, e2, e3⟩ | ⟨b, e1, -⟩⟩
      · rw [hr] at e1
        cases e1
        exact ⟨e2, e3, hf⟩
      · rw [hr] at e1; cases e1
    · refine gOk.mono (m_walk hM1 hI hn h3 hc) fun p hp => ?_
      rcases hp with ⟨hf, ⟨f', e1, e2, e3⟩ | ⟨b, e1, -⟩⟩
      · rw [hr] at e1
        cases e1
        refine ⟨?_, ⟨ω, WE.rf, e3⟩, hf⟩
        rw [e2]
        rfl
      · rw [hr] at e1; cases e1
  | inl b =>
    have hnw := rdW_nw hI.1 hr
    by_cases h12 : c = 12
    · refine join_x (ω1 := ω) (im1 := im) (me1 := me) (ta1 := []) (fa1 := -1) (s1 := s) (t1 := t) (l1 := l) (l1' := l') (ans := .inl x_UOE) (α := Unit) hm ho hτ (by decide) hM hIV ?_ (fun G1 hM1 => ?_)
      · refine gOk.mono (c_walk hC hI (by omega) h3 hc) fun q hq => ?_
        rcases hq with ⟨hf, ⟨f', e1, -⟩ | ⟨b, e1, ⟨-, e2, e3⟩ | ⟨e2, -⟩⟩⟩
        · rw [hr] at e1; cases e1
        · exact ⟨e2, e3, hf⟩
        · omega
      · refine gOk.mono (m_walk hM1 hI hn h3 hc) fun p hp => ?_
        rcases hp with ⟨hf, ⟨f', e1, -⟩ | ⟨b, e1, ⟨-, e2, e3⟩ | ⟨e2, -⟩⟩⟩
        · rw [hr] at e1; cases e1
        · refine ⟨?_, ⟨ω, WE.rf, e3⟩, hf⟩
          rw [e2]
          rfl
        · omega
    · have hIV2 : IV (wSt (rdW (tbT ta) ta.length ω).2 3 (nI (c + 1))) im [] [] := by
        obtain ⟨a, b, c', d, -, -⟩ := hI
        exact ⟨txW.wi hnw.1 (by omega), li_of ((wSt_ne (by omega)).trans hnw.2.2.1) (fun j hj => (wSt_ne (by omega)).trans (hnw.2.2.2 j hj)) b, c', ⟨Nat.zero_le _, fun j w hj => by cases hj⟩, Nat.zero_le _, fun b hb => by cases hb⟩
      refine join_x (ω1 := wSt (rdW (tbT ta) ta.length ω).2 3 (nI (c + 1))) (im1 := im) (me1 := []) (ta1 := []) (fa1 := -1) (s1 := t) (t1 := s) (l1 := l) (l1' := l') (ans := .inr (nI (c + 1))) (α := Unit) hm ho hτ (by decide) hM hIV2 ?_ (fun G1 hM1 => ?_)
      · refine gOk.mono (c_walk hC hI (by omega) h3 hc) fun q hq => ?_
        rcases hq with ⟨hf, ⟨f', e1, -⟩ | ⟨b, e1, ⟨e2, -⟩ | ⟨-, e2, e3⟩⟩⟩
        · rw [hr] at e1; cases e1
        · omega
        · exact ⟨e2, e3, hf⟩
      · refine gOk.mono (m_walk hM1 hI hn h3 hc) fun p hp => ?_
        rcases hp with ⟨hf, ⟨f', e1, -⟩ | ⟨b, e1, ⟨e2, -⟩ | ⟨-, e2, e3, e4⟩⟩⟩
        · rw [hr] at e1; cases e1
        · omega
        · exact ⟨⟨e2, e3⟩, ⟨_, WE.rf, e4⟩, hf⟩
end
