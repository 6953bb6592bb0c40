/-! CALLS: seasons -/
section
variable {τ : gτ} {n : Nat} {G G' : gG} {s l : Nat} {ω ω' : gW}
theorem s_passOne (h : SV τ G s l ω) (hn : 500 < n) : gOk (f_X6_passOne τ n s l G) (fun G' => SV τ G' s l (seaW ω) ∧ Fr (sq s l) G G') := by
  have hI := h.2.2.1
  have hLI := h.2.2.2.2.2.1
  have hr := hI.r1
  have hy := hI.y1
  obtain ⟨G2, e2, h2, f2⟩ := s_draw h
  have s2 := SW.dr hI
  have k19 : ∀ g, g = gaS ω → gOk (k_X6_passOne_19 τ n s l g G2) (fun G' => SV τ G' s l (seaW ω) ∧ Fr (sq s l) G G') := fun g hg => by
    unfold k_X6_passOne_19
    rw [ka_bind]
    unfold l_X6_passOne_22
    refine gOk.mono (ka_loop (cR ω) (fun c q => q.1 = nI c ∧ SV τ q.2 s l (rsW (drW ω) g c) ∧ Fr (sq s l) G2 q.2) (K := fun G' => SV τ G' s l (rsW (drW ω) g (cR ω)) ∧ Fr (sq s l) G2 G') (by omega) ⟨rfl, h2, Fr.rf⟩ (fun c q hc hq => ?_)) (fun G3 h3 => ?_)
    · obtain ⟨x3, G3⟩ := q
      obtain ⟨e1, h3, f3⟩ := hq
      have e1 : x3 = nI c := e1
      have f3 : Fr (sq s l) G2 G3 := f3
      have h3 : SV τ G3 s l (rsW (drW ω) g c) := h3
      subst e1
      have s3 := SW.rs (g := g) s2.1 (s2.li hLI) (c := c) (by rw [s2.2.2.2.2.1]; exact hc)
      have cr3 : cR (rsW (drW ω) g c) = cR ω := s3.2.2.2.2.1.trans s2.2.2.2.2.1
      have n3 : gi G3 6 5 s = nI (cR ω) := by rw [h3.2.1.cn.2.1, s3.1.r0, cr3]
      show gOk (b_X6_passOne_22 τ n s l g (nI c) G3) _
      unfold b_X6_passOne_22
      rw [n3]
      by_cases hlt : c < cR ω
      · have hlt3 : c < cR (rsW (drW ω) g c) := by rw [cr3]; exact hlt
        rw [if_neg (nI_ge hlt (by omega)), h3.1.rf.2.1, ka_bs, h3.1.r (i := c) (by omega), (h3.2.1.r hlt3).f.2.2.2.2.2.2.2.2.2]
        by_cases h8 : rv (rsW (drW ω) g c) c 8 = 0
        · rw [if_pos h8, ka_bs, h3.1.r (i := c) (by omega), ka_bind]
          refine gOk.mono (s_fray h3 hn hlt3 h8 g) fun G4 h4 => ?_
          rw [ka_letE, nI_1]
          refine ⟨_, rfl, hlt, rfl, ?_, f3.tr h4.2⟩
          show SV τ G4 s l (if rv (rsW (drW ω) g c) c 8 = 0 then goW (rsW (drW ω) g c) c g else rsW (drW ω) g c)
          rw [if_pos h8]
          exact h4.1
        · rw [if_neg h8, ka_letE, nI_1]
          refine ⟨_, rfl, hlt, rfl, ?_, f3⟩
          show SV τ G3 s l (if rv (rsW (drW ω) g c) c 8 = 0 then goW (rsW (drW ω) g c) c g else rsW (drW ω) g c)
          rw [if_neg h8]
          exact h3
      · have hcN : c = cR ω := by omega
        rw [if_pos (nI_le (by omega) (by omega))]
        exact ⟨_, rfl, by rw [← hcN]; exact h3, f3⟩
    · obtain ⟨h3, f3⟩ := h3
      have s3 := s2.tr (SW.rs (g := g) s2.1 (s2.li hLI) (c := cR ω) (by rw [s2.2.2.2.2.1]; exact Nat.le_refl _))
      rw [ka_letE]
      unfold k_X6_passOne_60
      rw [ka_bind]
      unfold l_X6_passOne_62
      refine gOk.mono (ka_loop (cY ω) (fun c q => q.1 = nI c ∧ SV τ q.2 s l (ysW (rsW (drW ω) g (cR ω)) c) ∧ Fr (sq s l) G3 q.2) (K := fun G' => SV τ G' s l (ysW (rsW (drW ω) g (cR ω)) (cY ω)) ∧ Fr (sq s l) G3 G') (by omega) ⟨rfl, h3, Fr.rf⟩ (fun c q hc hq => ?_)) (fun G4 h4 => ?_)
      · obtain ⟨x3, G4⟩ := q
        obtain ⟨e1, h4, f4⟩ := hq
        have e1 : x3 = nI c := e1
        have f4 : Fr (sq s l) G3 G4 := f4
        have h4 : SV τ G4 s l (ysW (rsW (drW ω) g (cR ω)) c) := h4
        subst e1
        have s4 := s3.tr (SW.ys s3.1 (c := c) (by rw [s3.2.2.2.1]; exact hc))
        generalize hw4 : ysW (rsW (drW ω) g (cR ω)) c = w4 at h4 s4
        have hnext : ysW (rsW (drW ω) g (cR ω)) (c + 1) = ytW w4 c := by rw [← hw4]; rfl
        have n4 : gi G4 6 4 s = nI (cY ω) := by rw [h4.2.1.cn.1, s4.1.y0, s4.2.2.2.1]
        show gOk (b_X6_passOne_62 τ n s (nI c) G4) _
        unfold b_X6_passOne_62
        rw [n4]
        by_cases hlt : c < cY ω
        · have hlt4 : c < cY w4 := by rw [s4.2.2.2.1]; exact hlt
          have hty := SW.yt s4.1 hlt4
          rw [if_neg (nI_ge hlt (by omega)), h4.1.rf.1, ka_bs, h4.1.y (i := c) (by omega), (h4.2.1.y hlt4).2.1]
          unfold ytW at hnext hty
          by_cases h1 : yv w4 c 1 ≤ 0
          · rw [if_pos h1, ka_letE, nI_1]
            rw [if_pos h1] at hnext
            exact ⟨_, rfl, hlt, rfl, by rw [hnext]; exact h4, f4⟩
          · rw [if_neg h1] at hnext hty
            obtain ⟨G5, e5, h5, f5⟩ := s_draw h4
            have f35 : Fr (sq s l) G3 G5 := f4.tr f5
            have ev : drD w4 - drD w4 / 100 * 100 = drV w4 := rfl
            rw [if_neg h1, ka_b2 e5, h5.2.1.cn.2.2.2.2.2.1, show drW w4 7 = w4 7 from drW.xx (by decide), ev]
            by_cases h2 : w4 7 ≤ drV w4
            · rw [if_pos h2, ka_letE, nI_1]
              rw [if_pos h2] at hnext
              exact ⟨_, rfl, hlt, rfl, by rw [hnext]; exact h5, f35⟩
            · rw [if_neg h2] at hnext hty
              have hlt5 : c < cY (drW w4) := by rw [(SW.dr s4.1).2.2.2.1]; exact hlt4
              obtain ⟨y0, y1, y2, y3'⟩ := h5.2.1.y hlt5
              obtain ⟨a0, a1, a2, a3, a4, a5, a6, a7, a8, a9, a10⟩ := h5.2.1.cn
              rw [if_neg h2, h5.1.rf.1, ka_bs, h5.1.y (i := c) (by omega), ka_bs, h5.1.y (i := c) (by omega), y2, (yt_pre c).mpr trivial, gmin_c, ka_letE, ka_letE, nI_1]
              generalize hG6 : gsi G5 9 2 (s + 6 + c) (gmin 9 (yv w4 c 2 + 1)) = G6
              have f6 : Fr (fun b => b = s + 6 + c) G5 G6 := by rw [← hG6]; exact Fr.i rfl
              have hF6 : FS τ G6 s := by rw [← hG6]; exact h5.1
              have I5 := h5.2.2.1
              have r5 := I5.r1
              have y5 := I5.y1
              have o5 := I5.o1
              have X : ∀ j, j ≠ 13 + 4 * c + 2 → wSt (drW w4) (13 + 4 * c + 2) (gmin 9 (yv w4 c 2 + 1)) j = drW w4 j := fun j h => wSt_ne h
              have cy : cY (wSt (drW w4) (13 + 4 * c + 2) (gmin 9 (yv w4 c 2 + 1))) = cY (drW w4) := by unfold cY; rw [X 0 (by omega)]
              have cr : cR (wSt (drW w4) (13 + 4 * c + 2) (gmin 9 (yv w4 c 2 + 1))) = cR (drW w4) := by unfold cR; rw [X 1 (by omega)]
              have co : cO (wSt (drW w4) (13 + 4 * c + 2) (gmin 9 (yv w4 c 2 + 1))) = cO (drW w4) := by unfold cO; rw [X 2 (by omega)]
              have hV6 : VS G6 s (wSt (drW w4) (13 + 4 * c + 2) (gmin 9 (yv w4 c 2 + 1))) := by
                refine vs_acts I5 h5.2.1 ?_ (fun i hi => ?_) (fun i hi => ?_) (fun i hi => ?_) (X 11 (by omega)) (fun j h1 h2 => X j (by omega)) (f6 (s + 4) (by omega)) (f6 (s + 5) (by omega))
                · simp only [(f6 s (by omega)).1]
                  rw [X 0 (by omega), X 1 (by omega), X 2 (by omega), X 3 (by omega), X 6 (by omega), X 7 (by omega), X 5 (by omega), X 12 (by omega), X 10 (by omega), X 8 (by omega), X 9 (by omega)]
                  exact ⟨a0, a1, a2, a3, a4, a5, a6, a7, a8, a9, a10⟩
                · rw [cy] at hi
                  by_cases hic : i = c
                  · subst hic
                    have e0 : yv (wSt (drW w4) (13 + 4 * i + 2) (gmin 9 (yv w4 i 2 + 1))) i 0 = yv (drW w4) i 0 := X _ (by omega)
                    have e1 : yv (wSt (drW w4) (13 + 4 * i + 2) (gmin 9 (yv w4 i 2 + 1))) i 1 = yv (drW w4) i 1 := X _ (by omega)
                    have e2' : yv (wSt (drW w4) (13 + 4 * i + 2) (gmin 9 (yv w4 i 2 + 1))) i 2 = gmin 9 (yv w4 i 2 + 1) := wSt_eq
                    have e3 : yv (wSt (drW w4) (13 + 4 * i + 2) (gmin 9 (yv w4 i 2 + 1))) i 3 = yv (drW w4) i 3 := X _ (by omega)
                    unfold YV
                    rw [e0, e1, e2', e3, ← hG6]
                    simp [ka_ii, y0, y1, y3']
                  · exact (h5.2.1.yv hi).same (f6 (s + 6 + i) (by omega)) fun q hq => X _ (by omega)
                · rw [cr] at hi
                  exact (h5.2.1.r hi).same (f6 (s + 16 + i) (by omega)) fun j hj => X _ (by omega)
                · rw [co] at hi
                  exact (h5.2.1.ov hi).same (f6 (s + 24 + i) (by omega)) fun q hq => X _ (by omega)
              have f46 : Fr (sq s l) G4 G6 := f5.tr (f6.mono fun b hb => by omega)
              exact ⟨_, rfl, hlt, rfl, by rw [hnext]; exact h4.goes f46 hF6 hV6 hty, f4.tr f46⟩
        · have hcN : c = cY ω := by omega
          rw [if_pos (nI_le (by omega) (by omega))]
          exact ⟨_, rfl, by rw [← hcN, hw4]; exact h4, f4⟩
      · obtain ⟨h4, f4⟩ := h4
        obtain ⟨G5, e5, h5, f5⟩ := s_end h4
        rw [ka_letE]
        unfold k_X6_passOne_127
        rw [e5, ka_bs]
        refine ⟨_, rfl, ?_, ((f2.tr f3).tr f4).tr f5⟩
        rw [hg] at h5
        exact h5
  have ev : drD ω - drD ω / 100 * 100 = drV ω := rfl
  unfold f_X6_passOne
  rw [ka_b2 e2, h2.2.1.cn.2.2.2.2.1, show drW ω 6 = ω 6 from drW.xx (by decide), ev]
  by_cases h6 : ω 6 ≤ drV ω
  · rw [if_pos h6]; exact k19 0 (by unfold gaS; rw [if_pos h6])
  · rw [if_neg h6]; exact k19 1 (by unfold gaS; rw [if_neg h6])
theorem s_pass (h : SV τ G s l ω) (hn : 500 < n) {N : Nat} (hN : N ≤ 50) : gOk (f_X6_pass τ n s (nI N) l G) (fun G' => SV τ G' s l (sesW ω N) ∧ Fr (sq s l) G G') := by
  unfold f_X6_pass
  rw [ka_bind]
  unfold l_X6_pass_2
  refine gOk.mono (ka_loop N (fun c q => q.1 = nI c ∧ SV τ q.2 s l (sesW ω c) ∧ Fr (sq s l) G q.2) (K := fun G' => SV τ G' s l (sesW ω N) ∧ Fr (sq s l) G G') (by omega) ⟨rfl, h, Fr.rf⟩ (fun c q hc hq => ?_)) (fun G3 h3 => by rw [ka_letE]; exact ⟨_, rfl, h3⟩)
  obtain ⟨x3, G3⟩ := q
  obtain ⟨e1, h3, f3⟩ := hq
  have e1 : x3 = nI c := e1
  have f3 : Fr (sq s l) G G3 := f3
  have h3 : SV τ G3 s l (sesW ω c) := h3
  subst e1
  show gOk (b_X6_pass_2 τ n s (nI N) l (nI c) G3) _
  unfold b_X6_pass_2
  by_cases hlt : c < N
  · rw [if_neg (nI_ge hlt (by omega)), ka_bind]
    refine gOk.mono (s_passOne h3 hn) fun G4 h4 => ?_
    rw [ka_letE, nI_1]
    exact ⟨_, rfl, hlt, rfl, h4.1, f3.tr h4.2⟩
  · have hcN : c = N := by omega
    rw [if_pos (nI_le (by omega) (by omega))]
    exact ⟨_, rfl, by rw [← hcN]; exact h3, f3⟩
end
section
variable {τ : gτ} {n : Nat} {G G' : gG} {x m s t l l' o : Nat} {ω ω' : gW} {im : Option gW} {me : List gW} {ta : List Nat} {fa : Int32}
theorem SW.iv (h : SW ω ω') (hI : IV ω im me ta) : IV ω' im me ta := iv_of hI h.1 h.2.1 h.2.2.1
theorem CV.sv (h : CV τ G x s t l l' ω im me ta fa) (hI : IV ω im me ta) : SV τ G s l ω := by
  have hsl := h.sl
  exact ⟨h.fs.1, h.vs, hI.1, h.fl.1, h.lv, hI.2.1, by omega⟩
/-- two cells of a later pool put into an earlier one -/
def mixG (a b : Nat) (G G' : gG) : gG := ((fun c k d => if d = a ∨ d = b then G'.1 c k d else G.1 c k d), (fun c k d => if d = a ∨ d = b then G'.2.1 c k d else G.2.1 c k d), (fun d i => if d = a ∨ d = b then G'.2.2.1 d i else G.2.2.1 d i), (fun d i => if d = a ∨ d = b then G'.2.2.2.1 d i else G.2.2.2.1 d i), (fun d i => if d = a ∨ d = b then G'.2.2.2.2 d i else G.2.2.2.2 d i))
theorem mixG.lo {a b d : Nat} (h : ¬ (d = a ∨ d = b)) : gSame G (mixG a b G G') d := ⟨fun _ _ => if_neg h, fun _ _ => if_neg h, funext fun _ => if_neg h, funext fun _ => if_neg h, funext fun _ => if_neg h⟩
theorem mixG.hi {a b d : Nat} (h : d = a ∨ d = b) : gSame (mixG a b G G') G' d := ⟨fun _ _ => (if_pos h).symm, fun _ _ => (if_pos h).symm, funext fun _ => (if_pos h).symm, funext fun _ => (if_pos h).symm, funext fun _ => (if_pos h).symm⟩
theorem gSame.sy {G G' : gG} {b : Nat} (h : gSame G G' b) : gSame G' G b := ⟨fun c k => (h.1 c k).symm, fun c k => (h.2.1 c k).symm, h.2.2.1.symm, h.2.2.2.1.symm, h.2.2.2.2.symm⟩
/-- from a world behind seasons back to all of the class -/
theorem cv_of (hC : CV τ G x s t l l' ω im me ta fa) (hI : IV ω im me ta) (h : SV τ G' s l ω') (hf : Fr (sq s l) G G') (hW : SW ω ω') : CV τ G' x s t l l' ω' im me ta fa := by
  have f1 : Fr (scr l) G (mixG (l + 5) (l + 6) G G') := fun b hb => mixG.lo hb
  have hC1 := (QC.scr hC f1).cv hC hI
  have f2 : Fr (spn s) (mixG (l + 5) (l + 6) G G') G' := fun b hb => by
    by_cases hl : b = l + 5 ∨ b = l + 6
    · exact mixG.hi hl
    · exact (mixG.lo hl).sy.tr (hf b (fun h => h.elim (fun h => hb h) (fun h => hl h)))
  exact hC1.world hI f2 h.1 h.2.1 hW.2.1 hW.2.2.1
theorem c_seasons (hC : CV τ G x s t l l' ω im me ta fa) (hI : IV ω im me ta) (hn : 500 < n) {N : Nat} (h1 : ¬ (nI N < 1 ∨ 50 < nI N)) (hN : N ≤ 50) : gOk (f_X10_seasons τ n x (nI N) G) (fun q => q.1 = .inr (sesW ω N 9 - ω 9) ∧ CV τ q.2 x s t l l' (sesW ω N) im (pushM me ω) ta fa ∧ Fr (fun b => x ≤ b ∧ b ≤ x + 511) G q.2) := by
  have hsl := hC.sl
  unfold f_X10_seasons
  rw [ka_bxr (c_withinO h1), hC.rf.2.2.2.1, ka_bs, hC.rf.2.2.2.2.2.2.2.2.2.2.1, ka_bs, ka_bind]
  refine gOk.mono (c_keep hC hI hn) fun G1 h1 => ?_
  obtain ⟨hC1, hf1⟩ := h1
  rw [hC1.rf.2.2.2.2.2.2.2.2.2.2.1, ka_bs, ka_letE, ka_bs, hC1.rf.2.2.2.2.2.2.2.2.2.2.2.2.1, ka_bs, ka_bind]
  refine gOk.mono (s_pass (hC1.sv hI.push) hn hN) fun G2 h2 => ?_
  obtain ⟨hS, hf2⟩ := h2
  have hW := SW.ses hI.1 hI.2.1 (c := N)
  have hC2 := cv_of hC1 hI.push hS hf2 hW
  rw [hC2.rf.2.2.2.2.2.2.2.2.2.2.1, ka_bs, hC1.vs.cn.2.2.2.2.2.2.2.2.2.2, hC2.vs.cn.2.2.2.2.2.2.2.2.2.2]
  exact ⟨_, rfl, rfl, hC2, (hf1.mono fun b hb => by omega).tr (hf2.mono fun b hb => by omega)⟩
theorem m_ses (hM : FM τ G m) (hω : ge G (m + 1) = ω) (hI : WI ω) (hLI : LI ω) (hn : 500 < n) {N : Nat} {v : Int32} (hN : N ≤ 50) : gOk (l_X11_seasons_44 τ n m (nI N) v 0 G) (fun G' => ge G' (m + 1) = sesW ω N ∧ Fr (mm m) G G') := by
  unfold l_X11_seasons_44
  refine ka_loop N (fun c q => q.1 = nI c ∧ ge q.2 (m + 1) = sesW ω c ∧ Fr (mm m) G q.2) (by omega) ⟨rfl, hω, Fr.rf⟩ (fun c q hc hq => ?_)
  obtain ⟨x3, G3⟩ := q
  obtain ⟨e1, h3, f3⟩ := hq
  have e1 : x3 = nI c := e1
  have f3 : Fr (mm m) G G3 := f3
  have h3 : ge G3 (m + 1) = sesW ω c := h3
  subst e1
  have hW := SW.ses hI hLI (c := c)
  show gOk (b_X11_seasons_44 τ n m (nI N) v (nI c) G3) _
  unfold b_X11_seasons_44
  by_cases hlt : c < N
  · rw [if_neg (nI_ge hlt (by omega)), ka_bind]
    refine gOk.mono (m_oneSeason (f3.fm hM (by omega)) h3 hW.1 (hW.li hLI) hn) fun G4 h4 => ?_
    rw [ka_letE, nI_1]
    exact ⟨_, rfl, hlt, rfl, h4.1, f3.tr h4.2⟩
  · have hcN : c = N := by omega
    rw [if_pos (nI_le (by omega) (by omega))]
    exact ⟨_, rfl, by rw [← hcN]; exact h3, f3⟩
theorem MV.wld (h : MV τ G m ω im me ta fa) (hf : Fr (mm m) G G') (hω : ge G' (m + 1) = ω') : MV τ G' m ω' im me ta fa := by
  obtain ⟨hM, h2, ⟨i1, i2⟩, ⟨m1, m2⟩, ⟨t1, t2⟩, t3⟩ := h
  refine ⟨hf.fm hM (by omega), hω, ⟨?_, fun w hw j hj => ?_⟩, ⟨?_, fun j w hj i hi => ?_⟩, ⟨?_, fun j b hj => ?_⟩, ?_⟩
  · rw [(hf m (by omega)).1]; exact i1
  · rw [(hf (m + 2) (by omega)).2.2.1]; exact i2 w hw j hj
  · rw [(hf m (by omega)).1]; exact m1
  · rw [(hf (m + 5) (by omega)).2.2.1]; exact m2 j w hj i hi
  · rw [(hf m (by omega)).1]; exact t1
  · rw [(hf (m + 6) (by omega)).2.2.1]; exact t2 j b hj
  · rw [(hf m (by omega)).1]; exact t3
theorem m_seasons (hM : MV τ G m ω im me ta fa) (hI : IV ω im me ta) (hn : 6000 < n) {N : Nat} (h1 : ¬ (nI N < 1 ∨ 50 < nI N)) (hN : N ≤ 50) : gOk (f_X11_seasons τ n m (nI N) G) (fun p => Th [x_IAE] (.inr (sesW ω N 9 - ω 9)) p.1 (gi p.2 11 0 m) ∧ (∃ ω2, WE (sesW ω N) ω2 ∧ MV τ p.2 m ω2 im (pushM me ω) ta fa) ∧ Fr (fun b => m ≤ b ∧ b ≤ m + 10) G p.2) := by
  have hM2 : MV τ (gsi G 11 0 m 0) m ω im me ta fa := hM.th0
  unfold f_X11_seasons
  rw [ka_letE, m_in0, ka_bs, if_neg h1, if_neg ka_n10]
  unfold k_X11_seasons_21
  rw [ka_b2 m_thIf0, if_pos rfl, ka_bind]
  refine gOk.mono (m_remembers hM2 hI.2.2.2.1.1 hn) fun G3 h3 => ?_
  obtain ⟨hM3, th3, hf3⟩ := h3
  rw [m_g hM3.1, hM3.1.w (x := 9) 9 rfl (by decide), ka_letE, ka_bind, hM3.2.1, show ω (Int32.toNatClampNeg 9) = ω 9 from rfl]
  refine gOk.mono (m_ses hM3.1 hM3.2.1 hI.1 hI.2.1 (by omega) hN) fun G4 h4 => ?_
  obtain ⟨w4, hf4⟩ := h4
  have hM4 : MV τ G4 m (sesW ω N) im (pushM me ω) ta fa := hM3.wld hf4 w4
  unfold k_X11_seasons_59
  rw [ka_letE, m_g hM4.1, hM4.1.w (x := 9) 9 rfl (by decide), w4]
  refine ⟨_, rfl, ⟨?_, rfl⟩, ⟨sesW ω N, WE.rf, hM4⟩, ?_⟩
  · rw [(hf4 m (by omega)).1, th3]
    exact th_set
  · have fth : Fr (fun b => m ≤ b ∧ b ≤ m + 10) G (gsi G 11 0 m 0) := Fr.i ⟨Nat.le_refl _, by omega⟩
    exact (fth.tr (hf3.mono fun b hb => by omega)).tr (hf4.mono fun b hb => by omega)
theorem op_seasons (hm : m = x + 512) (ho : o = m + 11) (hτ : gn τ o = 1) (hn : 6000 < n) (hC : CV τ G x s t l l' ω im me ta fa) (hM : MV τ G m ω im me ta fa) (hI : IV ω im me ta) (v : Int32) : gOk (f_L_seasons τ n x v o G) (fun q => gOk (f_X11_seasons τ n m v q.2) (fun p => q.1 = gi p.2 11 0 m ∧ (q.1 = 0 → gl p.2 o 0 = p.1.toInt64) ∧ ST τ x m p.2)) := by
  unfold f_L_seasons
  by_cases hv : v < 1 ∨ 50 < v
  · refine join_q (ans := .inl x_IAE) hm ho hτ (by decide) hC hM hI ⟨(.inl x_IAE, G), by unfold f_X10_seasons; exact ka_bxl (c_withinN hv), rfl, QC.rf⟩ (fun G1 hM1 => ?_)
    unfold f_X11_seasons
    rw [ka_letE, m_in0, ka_bs, if_pos hv, if_pos rfl]
    unfold k_X11_seasons_21
    rw [ka_b2 m_thIf1, if_neg ka_n10]
    refine ⟨_, rfl, ?_, QM.th.tr QM.th⟩
    show gCode [x_IAE] x_IAE 1 = some _
    rw [th_set]
    rfl
  · obtain ⟨N, -, hN, rfl⟩ := bt_of (lo := 1) (hi := 50) (by decide) (by decide) hv
    exact join_x (α := Int32) hm ho hτ (by decide) hM ((SW.ses hI.1 hI.2.1).iv hI.push) (c_seasons hC hI (by omega) hv hN) (fun G1 hM1 => m_seasons hM1 hI hn hv hN)
end
