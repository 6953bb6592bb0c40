/-! CALLS: would -/
section
variable {ω ω' : gW}
theorem beS_mv {i i' : Nat} (hr : ∀ j, j < 10 → rv ω' i' j = rv ω i j) (h : ∀ j, j < 53 ∨ 143 ≤ j → ω' j = ω j) (hy : ∀ j, j < 3 → ry ω i j < 10) : beS ω' i' = beS ω i := by
  have r : ∀ j, j < 3 → ry ω' i' j = ry ω i j := fun j hj => by unfold ry; rw [hr j (by omega)]
  have y : ∀ a k, a < 10 → k < 4 → yv ω' a k = yv ω a k := fun a k ha hk => h _ (by omega)
  have q0 := hy 0 (by decide)
  have q1 := hy 1 (by decide)
  have q2 := hy 2 (by decide)
  have w : wiS ω' = wiS ω := by unfold wiS; rw [h 5 (by decide)]
  have fc : ∀ c v, fcS ω' i' c v = fcS ω i c v := fun c v => by
    unfold fcS
    rw [r 0 (by decide), r 1 (by decide), r 2 (by decide), y _ 0 q0 (by decide), y _ 0 q1 (by decide), y _ 0 q2 (by decide), y _ 2 q0 (by decide), y _ 2 q1 (by decide), y _ 2 q2 (by decide), y _ 3 q0 (by decide), y _ 3 q1 (by decide), y _ 3 q2 (by decide), hr 4 (by decide), hr 5 (by decide), hr 3 (by decide), hr 7 (by decide), hr 9 (by decide), hr 6 (by decide), w]
  have esc : ∀ k, sc ω' k = sc ω k := fun k => h _ (by omega)
  have esn : ∀ k, sn ω' k = sn ω k := fun k => h _ (by omega)
  have elw : ∀ a b, lw ω' a b = lw ω a b := fun a b => h _ (by omega)
  have est : ∀ k L, stepL ω' i' k L = stepL ω i k L := fun k L => by
    unfold stepL
    rw [esc, esn, fc]
  have eev : ∀ b k, evL ω' i' b k = evL ω i b k := fun b k => acc_congr fun j L _ => est _ _
  have ecn : ∀ ln, cnS ω' i' ln = cnS ω i ln := fun ln => by
    unfold cnS lb le
    rw [elw, elw, eev]
  have esm : ∀ v, smS ω' i' v = smS ω i v := fun v => by
    unfold smS cLn
    rw [h 4 (by decide), h 467 (by decide)]
    by_cases h4 : ω 4 = 1
    · rw [if_pos h4, if_pos h4]
      exact acc_congr fun j b _ => by rw [elw, elw, ecn]
    · rw [if_neg h4, if_neg h4]
  have eso : ∀ a, a < 10 → soS ω' a = soS ω a := fun a ha => by
    unfold soS
    rw [y a 0 ha (by decide), y a 2 ha (by decide)]
  unfold beS
  rw [hr 8 (by decide), r 0 (by decide), r 1 (by decide), r 2 (by decide), eso _ q0, eso _ q1, eso _ q2, esm, esm, hr 5 (by decide), hr 7 (by decide)]
/-- a rope of another world as the trial rope of this one -/
def w8 (ω ω' : gW) (k : Nat) : gW := fun j => if 133 ≤ j ∧ j < 143 then ω' (53 + 10 * k + (j - 133)) else ω j
theorem w8_we {k : Nat} : WE ω (w8 ω ω' k) := fun j hj => if_neg (by omega)
theorem w8_e {k j : Nat} (hj : j < 10) : rv (w8 ω ω' k) 8 j = rv ω' k j := by
  unfold rv w8
  rw [if_pos (by omega), show 53 + 10 * 8 + j - 133 = j by omega]
theorem beS_w8 {k : Nat} (hk : k < 8) (hRE : RE k ω ω') (hK : ROK ω' k) (hy : cY ω' ≤ 10) : beS (w8 ω ω' k) 8 = beS ω' k := by
  obtain ⟨⟨-, a⟩, ⟨-, b⟩, -, c⟩ := hK.1
  refine beS_mv (fun j hj => w8_e hj) (fun j hj => ?_) (fun j hj => ?_)
  · rw [show w8 ω ω' k j = ω j from if_neg (by omega), hRE j (by omega)]
  · match j, hj with
    | 0, _ => omega
    | 1, _ => omega
    | 2, _ => omega
end
section
variable {τ : gτ} {n : Nat} {G G' G1 G2 : gG} {x m s t l l' o a : Nat} {ω ω' : gW} {im : Option gW} {me : List gW} {ta : List Nat} {fa : Int32}
theorem s_tarOnce {k : Nat} (hR : RV G a ω k) : ∃ G', f_X5_tarOnce a G = some G' ∧ RV G' a (tarW ω k) k ∧ Fr (fun b => b = a) G G' := by
  obtain ⟨r0, r1, r2, r3, r4, r5, r6, r7, r8, r9⟩ := hR.f
  have e5 : ∀ v, gi (gsi G 5 4 a v) 5 5 a = rv ω k 5 := fun v => by rw [ka_ii, if_neg (fun h => absurd h.2.1 (by decide)), r5]
  unfold f_X5_tarOnce
  rw [ka_letE, ka_letE, r4, e5, gmin_c (rv ω k 4 + 1), gmax_c (rv ω k 5 - 5)]
  refine ⟨_, rfl, ?_, (Fr.i (A := fun b => b = a) rfl).tr (Fr.i (A := fun b => b = a) rfl)⟩
  unfold RV
  simp only [tarW.e (show 0 < 10 by decide), tarW.e (show 1 < 10 by decide), tarW.e (show 2 < 10 by decide), tarW.e (show 3 < 10 by decide), tarW.e (show 4 < 10 by decide), tarW.e (show 5 < 10 by decide), tarW.e (show 6 < 10 by decide), tarW.e (show 7 < 10 by decide), tarW.e (show 8 < 10 by decide), tarW.e (show 9 < 10 by decide)]
  simp [ka_ii, r0, r1, r2, r3, r6, r7, r8, r9]
theorem s_dbl {k : Nat} (hR : RV G a ω k) : ∃ G', f_X5_makeDouble a G = some G' ∧ RV G' a (dblW ω k) k ∧ Fr (fun b => b = a) G G' := by
  obtain ⟨r0, r1, r2, r3, r4, r5, r6, r7, r8, r9⟩ := hR.f
  have e3 : ∀ v, gi (gsi G 5 6 a v) 5 3 a = rv ω k 3 := fun v => by rw [ka_ii, if_neg (fun h => absurd h.2.1 (by decide)), r3]
  unfold f_X5_makeDouble
  rw [ka_letE, ka_letE, r6, e3]
  refine ⟨_, rfl, ?_, (Fr.i (A := fun b => b = a) rfl).tr (Fr.i (A := fun b => b = a) rfl)⟩
  unfold RV
  simp only [dblW.e (show 0 < 10 by decide), dblW.e (show 1 < 10 by decide), dblW.e (show 2 < 10 by decide), dblW.e (show 3 < 10 by decide), dblW.e (show 4 < 10 by decide), dblW.e (show 5 < 10 by decide), dblW.e (show 6 < 10 by decide), dblW.e (show 7 < 10 by decide), dblW.e (show 8 < 10 by decide), dblW.e (show 9 < 10 by decide)]
  simp [ka_ii, r0, r1, r2, r4, r5, r7, r8, r9]
theorem s_whp {k : Nat} (hR : RV G a ω k) : RV (gsi G 5 8 a 1) a (whipW ω k) k ∧ Fr (fun b => b = a) G (gsi G 5 8 a 1) := by
  obtain ⟨r0, r1, r2, r3, r4, r5, r6, r7, r8, r9⟩ := hR.f
  refine ⟨?_, Fr.i rfl⟩
  unfold RV
  simp only [whipW.e (show 0 < 10 by decide), whipW.e (show 1 < 10 by decide), whipW.e (show 2 < 10 by decide), whipW.e (show 3 < 10 by decide), whipW.e (show 4 < 10 by decide), whipW.e (show 5 < 10 by decide), whipW.e (show 6 < 10 by decide), whipW.e (show 7 < 10 by decide), whipW.e (show 8 < 10 by decide), whipW.e (show 9 < 10 by decide)]
  simp [ka_ii, r0, r1, r2, r3, r4, r5, r6, r7, r9]
theorem c_would92 (hC : CV τ G x s t l l' ω im me ta fa) (hI : IV ω im me ta) (hn : 500 < n) {k : Nat} (hk : k < 8) (hRE : RE k ω ω') (hK : ROK ω' k) (hR : RV G (x + 430) ω' k) : gOk (k_X10_would_92 τ n x G) (fun q => q.1 = .inr (beS ω' k) ∧ QC τ x t G q.2) := by
  have hsl := hC.sl
  have hcs := hRE.cs hk
  have hwe : WE ω (w8 ω ω' k) := w8_we
  have hy : cY ω' ≤ 10 := by rw [hcs.1]; exact hI.1.y1
  have hK8 : ROK (w8 ω ω' k) 8 := rok_mv hK (hwe.cs.1.trans hcs.1.symm) fun j hj => w8_e hj
  have hR8 : RV G (x + 430) (w8 ω ω' k) 8 := hR.same gSame.rf fun j hj => w8_e hj
  unfold k_X10_would_92
  rw [hC.rf.2.2.2.2.2.2.2.2.2.2.1, ka_bs, hC.rf.2.2.2.2.2.2.1, ka_bs, hC.rf.2.2.2.2.2.2.2.2.2.2.2.2.1, ka_bs, ka_bind2]
  refine gOk.mono (s_bearing hC.fs.1 (hwe.vs hI.1 hC.vs) (hwe.wi hI.1) hC.fl.1 (hwe.lv hC.lv) (hwe.li hI.2.1) hR8 hK8 (by omega) (by omega) hn) fun p hp => ?_
  exact ⟨_, rfl, congrArg Sum.inr (hp.1.trans (beS_w8 hk hRE hK hy)), QC.scr hC hp.2⟩
def woS (ω : gW) (k : Nat) : Nat → Int32
  | 0 => beS (tarW ω k) k
  | 1 => if canD ω k then beS (dblW ω k) k else beS ω k
  | _ => beS (whipW ω k) k
theorem c_would (hC : CV τ G x s t l l' ω im me ta fa) (hI : IV ω im me ta) (hn : 500 < n) {k j : Nat} (hk : k < cR ω) (hj : j < 3) : gOk (f_X10_would τ n x (nI k) (nI j) G) (fun q => q.1 = .inr (woS ω k j) ∧ QC τ x t G q.2) := by
  have hr := hI.1.r1
  have hsl := hC.sl
  have hK := hI.1.r hk
  obtain ⟨G4, e4, hR4, f4⟩ := s_rb (p := x + 430) (q := s + 16 + k) (G := G) (by omega) (hC.vs.r hk) (bt01 hK.2.2.1.2.2.2.1) (bt01 hK.2.2.1.2.2.2.2.1)
  have q430 : ∀ {H H' : gG}, Fr (fun b => b = x + 430) H H' → QC τ x t H H' := fun {H H'} f => ⟨f.mono fun b hb => by unfold scC; omega, fun h => f.fs h fun b h1 h2 => by omega⟩
  have hC4 := (q430 f4).cv hC hI
  unfold f_X10_would
  rw [hC.rf.2.2.2.2.2.2.1, ka_bs, ka_bxr (c_ropeOf hC hI.1 hk), hC.fs.1.kr (by omega), e4, ka_bs]
  match j, hj with
  | 0, _ =>
    obtain ⟨G5, e5, hR5, f5⟩ := s_tarOnce hR4
    have hC5 := ((q430 f4).tr (q430 f5)).cv hC hI
    rw [if_pos (show nI 0 = 0 from rfl), hC4.rf.2.2.2.2.2.2.1, ka_bs, e5, ka_bs]
    exact gOk.mono (c_would92 hC5 hI hn (by omega) tarW.re (tarW.ok (by omega) hK) hR5) fun q hq => ⟨hq.1, ((q430 f4).tr (q430 f5)).tr hq.2⟩
  | 1, _ =>
    rw [if_neg (show ¬ nI 1 = 0 by decide), if_pos (show nI 1 = 1 from rfl), hC4.rf.2.2.2.2.2.2.1, ka_bs, c_canD hR4, ka_bs]
    unfold woS
    by_cases hD : canD ω k
    · obtain ⟨G5, e5, hR5, f5⟩ := s_dbl hR4
      have hC5 := ((q430 f4).tr (q430 f5)).cv hC hI
      rw [if_pos hD, if_pos hD, if_neg ka_n10, ka_bs, e5, ka_bs]
      exact gOk.mono (c_would92 hC5 hI hn (by omega) dblW.re (dblW.ok (by omega) hK hD) hR5) fun q hq => ⟨hq.1, ((q430 f4).tr (q430 f5)).tr hq.2⟩
    · rw [if_neg hD, if_neg hD, if_pos rfl]
      exact gOk.mono (c_would92 hC4 hI hn (by omega) RE.rf hK hR4) fun q hq => ⟨hq.1, (q430 f4).tr hq.2⟩
  | 2, _ =>
    obtain ⟨hR5, f5⟩ := s_whp hR4
    have hC5 := ((q430 f4).tr (q430 f5)).cv hC hI
    rw [if_neg (show ¬ nI 2 = 0 by decide), if_neg (show ¬ nI 2 = 1 by decide), if_pos (show nI 2 = 2 from rfl), hC4.rf.2.2.2.2.2.2.1, ka_bs, ka_letE]
    exact gOk.mono (c_would92 hC5 hI hn (by omega) whipW.re (whipW.ok (by omega) hK) hR5) fun q hq => ⟨hq.1, ((q430 f4).tr (q430 f5)).tr hq.2⟩
theorem m_tars (hM : FM τ G m) (hω : ge G (m + 1) = ω) {k : Nat} (hk : k < 8) : gOk (f_X11_tars τ m (nI k) G) (fun G' => ge G' (m + 1) = tarW ω k ∧ Fr (fun b => b = m + 1) G G') := by
  obtain ⟨hM2, w2, f2⟩ := m_wr hM hω (k := 53 + 10 * k + 4) (v := gmin 9 (rv ω k 4 + 1))
  obtain ⟨hM3, w3, f3⟩ := m_wr hM2 w2 (k := 53 + 10 * k + 5) (v := gmax 0 (rv ω k 5 - 5))
  have e : rv (wSt ω (53 + 10 * k + 4) (gmin 9 (rv ω k 4 + 1))) k 5 = rv ω k 5 := wSt_ne (by omega)
  unfold f_X11_tars
  rw [m_g hM, m_at (w := 4) (j := 4) (by omega) rfl, ka_bs, hM.of (w := 4) k 4 rfl rfl (by omega), ka_bs, hω, m_w hM _ rfl (by omega), m_g hM2, m_at (w := 5) (j := 5) (by omega) rfl, ka_bs, hM2.of (w := 5) k 5 rfl rfl (by omega), ka_bs, w2, e, m_w hM2 _ rfl (by omega)]
  exact ⟨_, rfl, w3, f2.tr f3⟩
theorem m_dbls (hM : FM τ G m) (hω : ge G (m + 1) = ω) {k : Nat} (hk : k < 8) : gOk (f_X11_doubles τ m (nI k) G) (fun G' => ge G' (m + 1) = dblW ω k ∧ Fr (fun b => b = m + 1) G G') := by
  obtain ⟨hM2, w2, f2⟩ := m_wr hM hω (k := 53 + 10 * k + 7) (v := rv ω k 7 * 2)
  obtain ⟨hM3, w3, f3⟩ := m_wr hM2 w2 (k := 53 + 10 * k + 3) (v := rv ω k 3 / 2)
  have e0 : ge G (m + 1) (53 + 10 * k + 7) = rv ω k 7 := by rw [hω]; rfl
  have e : ge (gse G (m + 1) (53 + 10 * k + 7) (rv ω k 7 * 2)) (m + 1) (53 + 10 * k + 3) = rv ω k 3 := by
    rw [w2]
    exact wSt_ne (by omega)
  unfold f_X11_doubles
  rw [m_g hM, m_at (w := 7) (j := 7) (by omega) rfl, ka_bs, m_w2 hM _ rfl (by omega), nI_clamp (show 53 + 10 * k + 7 < 2 ^ 31 by omega), e0, m_g hM2, m_at (w := 3) (j := 3) (by omega) rfl, ka_bs, m_w2 hM2 _ rfl (by omega), nI_clamp (show 53 + 10 * k + 3 < 2 ^ 31 by omega), e]
  exact ⟨_, rfl, w3, f2.tr f3⟩
theorem m_would (hM : MV τ G m ω im me ta fa) (hI : IV ω im me ta) (hn : 500 < n) {k j : Nat} (hk : k < cR ω) (hj : j < 3) : gOk (f_X11_would τ n m (nI k) (nI j) G) (fun p => Th [x_IOE, x_NSE] (.inr (woS ω k j)) p.1 (gi p.2 11 0 m) ∧ QM m G p.2) := by
  have hr := hI.1.r1
  have hK := hI.1.r hk
  have hM2 : MV τ (gsi G 11 0 m 0) m ω im me ta fa := hM.th0
  have hj2 : ¬ (nI j < 0 ∨ 2 < nI j) := fun h => h.elim (fun h => nI_pos (by omega) h) (fun h => nI_nlt (a := 2) (b := j) (by omega) (by decide) h)
  unfold f_X11_would
  rw [ka_letE, (m_no hM2.1 hM2.2.1 hI.1 _).2.1, ka_bs, if_neg (no_k hk (by omega)), ka_b2 m_thIf0, if_pos rfl, m_in0, ka_bs, if_neg hj2, if_neg ka_n10]
  unfold k_X11_would_33
  rw [ka_b2 m_thIf0, if_pos rfl, ka_bind]
  refine gOk.mono (m_keepsAll hM2.1 hM2.2.1 hn) fun G3 h3 => ?_
  obtain ⟨e3, f3⟩ := h3
  have hM3 : FM τ G3 m := f3.fm hM2.1 (by omega)
  have w3 : ge G3 (m + 1) = ω := (f3 (m + 1) (by omega)).2.2.1.trans hM2.2.1
  have hend : ∀ {G4 : gG} {ω4 : gW}, ge G4 (m + 1) = ω4 → Fr (fun b => b = m + 1) G3 G4 → RE k ω ω4 → ROK ω4 k → beS ω4 k = woS ω k j → gOk (k_X11_would_91 τ n m (nI k) G4) (fun p => Th [x_IOE, x_NSE] (.inr (woS ω k j)) p.1 (gi p.2 11 0 m) ∧ QM m G p.2) := fun {G4 ω4} w4 f4 hRE hK4 hb => by
    have hM4 : FM τ G4 m := f4.fm hM3 (by omega)
    have hcs := hRE.cs (show k < 8 by omega)
    have hL4 : LI ω4 := li_of (hRE 4 (by omega)) (fun j hj => hRE j (by omega)) hI.2.1
    unfold k_X11_would_91
    rw [ka_bind2]
    refine gOk.mono (m_bearsOf hM4 w4 (i := k) (by omega) (by rw [hcs.1]; exact hI.1.y1) hK4 hL4 hn) fun p hp => ?_
    obtain ⟨p1, p2⟩ := hp
    have w5 : ge p.2 (m + 1) = ω4 := (p2 (m + 1) (by omega)).2.2.1.trans w4
    rw [ka_bind]
    refine gOk.mono (m_home hM2.1 hM2.2.1 hn e3 f3 ((f4.mono fun b hb => Or.inl hb).tr (p2.mono fun b hb => Or.inr hb) : Fr (mm m) G3 p.2) (fun j hj => by rw [w5]; exact hRE j (by omega))) fun G5 h5 => ?_
    exact ⟨_, rfl, ⟨h5.2.2.trans th_set, p1.trans hb⟩, QM.th.tr h5.2.1⟩
  match j, hj with
  | 0, _ =>
    rw [if_pos (show nI 0 = 0 from rfl), ka_bind]
    exact gOk.mono (m_tars hM3 w3 (k := k) (by omega)) fun G4 h4 => hend h4.1 h4.2 tarW.re (tarW.ok (by omega) hK) rfl
  | 1, _ =>
    rw [if_neg (show ¬ nI 1 = 0 by decide), if_neg (show ¬ nI 1 = 2 by decide), m_canD hM3 w3 (k := k) (by omega), ka_bs]
    by_cases hD : canD ω k
    · rw [if_pos hD, if_neg ka_n10, ka_bind]
      exact gOk.mono (m_dbls hM3 w3 (k := k) (by omega)) fun G4 h4 => hend h4.1 h4.2 dblW.re (dblW.ok (by omega) hK hD) (if_pos hD).symm
    · rw [if_neg hD, if_pos rfl]
      exact hend w3 Fr.rf RE.rf hK (if_neg hD).symm
  | 2, _ =>
    obtain ⟨hM4, w4, f4⟩ := m_wr hM3 w3 (k := 53 + 10 * k + 6) (v := 1)
    rw [if_neg (show ¬ nI 2 = 0 by decide), if_pos (show nI 2 = 2 from rfl), m_g hM3, m_at (w := 6) (j := 6) (by omega) rfl, ka_bs, m_w hM3 _ rfl (by omega)]
    exact hend w4 f4 whipW.re (whipW.ok (by omega) hK) rfl
theorem op_would (hm : m = x + 512) (ho : o = m + 11) (hτ : gn τ o = 1) (hn : 500 < n) (hC : CV τ G x s t l l' ω im me ta fa) (hM : MV τ G m ω im me ta fa) (hI : IV ω im me ta) (y w : Int32) : gOk (f_L_would τ n x y w o G) (fun q => gOk (f_X11_would τ n m y w q.2) (fun p => q.1 = gi p.2 11 0 m ∧ (q.1 = 0 → gl p.2 o 0 = p.1.toInt64) ∧ ST τ x m p.2)) := by
  have hr := hI.1.r1
  have hsl := hC.sl
  unfold f_L_would
  rcases arg_ix y (N := cR ω) (by omega) with ⟨k, hk, rfl⟩ | ⟨hno, -⟩
  · rcases arg_ix w (N := 3) (by decide) with ⟨j, hj, rfl⟩ | ⟨hwo, hwn⟩
    · exact join_q (ans := .inr (woS ω k j)) hm ho hτ (by decide) hC hM hI (c_would hC hI hn hk hj) (fun G1 hM1 => m_would hM1 hI hn hk hj)
    · have hK := hI.1.r hk
      obtain ⟨G4, e4, hR4, f4⟩ := s_rb (p := x + 430) (q := s + 16 + k) (G := G) (by omega) (hC.vs.r hk) (bt01 hK.2.2.1.2.2.2.1) (bt01 hK.2.2.1.2.2.2.2.1)
      refine join_q (ans := .inl x_NSE) hm ho hτ (by decide) hC hM hI ⟨(.inl x_NSE, G4), ?_, rfl, f4.mono fun b hb => by unfold scC; omega, fun h => f4.fs h fun b h1 h2 => by omega⟩ (fun G1 hM1 => ?_)
      · unfold f_X10_would
        rw [hC.rf.2.2.2.2.2.2.1, ka_bs, ka_bxr (c_ropeOf hC hI.1 hk), hC.fs.1.kr (by omega), e4, ka_bs, if_neg (show ¬ w = 0 from hwn 0 (by decide)), if_neg (show ¬ w = 1 from hwn 1 (by decide)), if_neg (show ¬ w = 2 from hwn 2 (by decide))]
      · have hM2 : FM τ (gsi G1 11 0 m 0) m := QM.th.fm hM1.1
        have hω2 : ge (gsi G1 11 0 m 0) (m + 1) = ω := hM1.2.1
        have hw2 : w < 0 ∨ 2 < w := (out_in (N := 2) (by decide) rfl).mpr hwo
        unfold f_X11_would
        rw [ka_letE, (m_no hM2 hω2 hI.1 _).2.1, ka_bs, if_neg (no_k hk (by omega)), ka_b2 m_thIf0, if_pos rfl, m_in0, ka_bs, if_pos hw2, if_pos rfl]
        unfold k_X11_would_33
        rw [ka_b2 m_thIf1, if_neg ka_n10]
        refine ⟨_, rfl, ?_, QM.th.tr QM.th⟩
        show gCode [x_IOE, x_NSE] x_NSE 1 = some _
        rw [th_set]
        rfl
  · refine join_q (ans := .inl x_IOE) hm ho hτ (by decide) hC hM hI ⟨(.inl x_IOE, G), ?_, rfl, QC.rf⟩ (fun G1 hM1 => ?_)
    · unfold f_X10_would
      rw [hC.rf.2.2.2.2.2.2.1, ka_bs]
      exact ka_bxl (c_ropeNo hC hI.1 hno)
    · have hM2 : FM τ (gsi G1 11 0 m 0) m := QM.th.fm hM1.1
      have hω2 : ge (gsi G1 11 0 m 0) (m + 1) = ω := hM1.2.1
      unfold f_X11_would
      rw [ka_letE, (m_no hM2 hω2 hI.1 _).2.1, ka_bs, if_pos hno, ka_b2 m_thIf1, if_neg ka_n10]
      refine ⟨_, rfl, ?_, QM.th.tr QM.th⟩
      show gCode [x_IOE, x_NSE] x_IOE 1 = some _
      rw [th_set]
      rfl
end
