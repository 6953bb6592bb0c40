/-! SEASONS: the rest of the worlds; the reference -/
section
variable {ω ω' : gW}
theorem pl_0 {k : Nat} {g : Int32} (h : bt (rv ω k 9) 0 999) : plS ω k g ≤ 0 ↔ rv ω k 9 ≤ 0 := by
  unfold plS
  by_cases hg : g = 0
  · rw [if_pos hg]
  · rw [if_neg hg]
    obtain ⟨a, -, a2, ha⟩ := h
    rw [ha, show nI a * (2 : Int32) = nI (a * 2) from pk_mul a 2]
    have e1 : nI (a * 2) ≤ 0 ↔ a * 2 ≤ 0 := nI_leI (b := 0) (by omega) (by decide)
    have e2 : nI a ≤ 0 ↔ a ≤ 0 := nI_leI (b := 0) (by omega) (by decide)
    rw [e1, e2]
    omega
def drW (ω : gW) : gW := wSt ω 12 (1103515245 * ω 12 + 12345)
def drD (ω : gW) : Int32 := (drW ω 12 >>> ((16 : Int32) &&& 31)) &&& 32767
def drV (ω : gW) : Int32 := drD ω - drD ω / 100 * 100
theorem drW.xx {j : Nat} (h : j ≠ 12) : drW ω j = ω j := wSt_ne h
theorem SW.dr (hI : WI ω) : SW ω (drW ω) := by
  refine ⟨wi_free (fun j _ _ _ h => wSt_ne h) hI, wSt_ne (by decide), fun j hj => wSt_ne (by omega), ?_, ?_, ?_⟩
  · unfold cY; rw [drW.xx (by decide)]
  · unfold cR; rw [drW.xx (by decide)]
  · unfold cO; rw [drW.xx (by decide)]
def rsW (ω : gW) (g : Int32) (c : Nat) : gW := acc (fun k w => if rv w k 8 = 0 then goW w k g else w) ω c
theorem SW.rs {g : Int32} (hI : WI ω) (hLI : LI ω) : ∀ {c : Nat}, c ≤ cR ω → SW ω (rsW ω g c)
  | 0, _ => SW.rf hI
  | c + 1, hc => by
    have h := SW.rs (g := g) hI hLI (c := c) (by omega)
    refine h.tr ?_
    show SW _ (if rv (rsW ω g c) c 8 = 0 then goW (rsW ω g c) c g else rsW ω g c)
    by_cases h8 : rv (rsW ω g c) c 8 = 0
    · rw [if_pos h8]
      exact SW.go h.1 (h.li hLI) (by rw [h.2.2.2.2.1]; omega) h8
    · rw [if_neg h8]
      exact SW.rf h.1
def ytW (ω : gW) (y : Nat) : gW := if yv ω y 1 ≤ 0 then ω else if ω 7 ≤ drV ω then drW ω else wSt (drW ω) (13 + 4 * y + 2) (gmin 9 (yv ω y 2 + 1))
theorem SW.yr {y : Nat} (hI : WI ω) (hy : y < cY ω) : SW ω (wSt ω (13 + 4 * y + 2) (gmin 9 (yv ω y 2 + 1))) := by
  have hyy := hI.y1
  have hoo := hI.o1
  have hrr := hI.r1
  have X : ∀ j, j ≠ 13 + 4 * y + 2 → wSt ω (13 + 4 * y + 2) (gmin 9 (yv ω y 2 + 1)) j = ω j := fun j h => wSt_ne h
  have cy : cY (wSt ω (13 + 4 * y + 2) (gmin 9 (yv ω y 2 + 1))) = cY ω := by unfold cY; rw [X 0 (by omega)]
  have cr : cR (wSt ω (13 + 4 * y + 2) (gmin 9 (yv ω y 2 + 1))) = cR ω := by unfold cR; rw [X 1 (by omega)]
  have co : cO (wSt ω (13 + 4 * y + 2) (gmin 9 (yv ω y 2 + 1))) = cO ω := by unfold cO; rw [X 2 (by omega)]
  refine ⟨wi_acts hI ⟨?_, ?_⟩ ⟨?_, ?_⟩ ⟨?_, ?_⟩ (X 3 (by omega)) (X 4 (by omega)) (X 5 (by omega)) (X 6 (by omega)) (X 7 (by omega)) (X 11 (by omega)) (fun i hi => ?_) (fun i hi => ?_) (fun i hi => ?_), X 4 (by omega), fun j hj => X j (by omega), cy, cr, co⟩
  · rw [cy, X 0 (by omega)]; exact hI.y0
  · rw [cy]; exact hI.y1
  · rw [cr, X 1 (by omega)]; exact hI.r0
  · rw [cr]; exact hI.r1
  · rw [co, X 2 (by omega)]; exact hI.o0
  · rw [co]; exact hI.o1
  · rw [cy] at hi
    by_cases hiy : i = y
    · subst hiy
      obtain ⟨k0, k1, ⟨a, -, a2, ha⟩, k3⟩ := hI.y hi
      have e2 : yv (wSt ω (13 + 4 * i + 2) (gmin 9 (yv ω i 2 + 1))) i 2 = gmin 9 (yv ω i 2 + 1) := wSt_eq
      unfold YOK
      rw [e2]
      refine ⟨?_, ?_, ?_, ?_⟩
      · exact (show yv (wSt ω _ _) i 0 = yv ω i 0 from X _ (by omega)) ▸ k0
      · exact (show yv (wSt ω _ _) i 1 = yv ω i 1 from X _ (by omega)) ▸ k1
      · rw [ha, nI_1]
        exact ⟨min 9 (a + 1), Nat.zero_le _, by omega, gmin_nI (a := 9) (by decide) (by omega)⟩
      · exact (show yv (wSt ω _ _) i 3 = yv ω i 3 from X _ (by omega)) ▸ k3
    · exact (hI.y hi).mv fun q hq => X _ (by omega)
  · rw [cr] at hi
    exact rok_mv (hI.r hi) cy fun j hj => X _ (by omega)
  · rw [co] at hi
    exact (hI.o hi).mv fun q hq => X _ (by omega)
theorem yt_pre (y : Nat) : yv (drW ω) y 2 = yv ω y 2 ↔ True := by
  refine ⟨fun _ => trivial, fun _ => ?_⟩
  by_cases h : 13 + 4 * y + 2 = 12
  · omega
  · exact wSt_ne h
theorem SW.yt {y : Nat} (hI : WI ω) (hy : y < cY ω) : SW ω (ytW ω y) := by
  unfold ytW
  by_cases h1 : yv ω y 1 ≤ 0
  · rw [if_pos h1]; exact SW.rf hI
  · rw [if_neg h1]
    have hd := SW.dr hI
    by_cases h2 : ω 7 ≤ drV ω
    · rw [if_pos h2]; exact hd
    · rw [if_neg h2]
      have := SW.yr (ω := drW ω) (y := y) hd.1 (by rw [hd.2.2.2.1]; exact hy)
      rw [(yt_pre y).mpr trivial] at this
      exact hd.tr this
def ysW (ω : gW) (c : Nat) : gW := acc (fun y w => ytW w y) ω c
theorem SW.ys (hI : WI ω) : ∀ {c : Nat}, c ≤ cY ω → SW ω (ysW ω c)
  | 0, _ => SW.rf hI
  | c + 1, hc => by
    have h := SW.ys hI (c := c) (by omega)
    exact h.tr (SW.yt h.1 (by rw [h.2.2.2.1]; omega))
def endW (ω : gW) : gW := wSt ω 5 (gmin 9999 (ω 5 + 1))
theorem SW.en (hI : WI ω) : SW ω (endW ω) := by
  have X : ∀ j, j ≠ 5 → endW ω j = ω j := fun j h => wSt_ne h
  obtain ⟨⟨⟨a1, a2⟩, ⟨b1, b2⟩, c1, c2⟩, ⟨d1, d2, ⟨p, -, p2, hp⟩, d4, d5, d6, d7⟩, e1, e2, e3⟩ := id hI
  have cy : cY (endW ω) = cY ω := by unfold cY; rw [X 0 (by decide)]
  have cr : cR (endW ω) = cR ω := by unfold cR; rw [X 1 (by decide)]
  have co : cO (endW ω) = cO ω := by unfold cO; rw [X 2 (by decide)]
  have cl : cL (endW ω) = cL ω := by unfold cL; rw [X 11 (by decide)]
  have e5 : endW ω 5 = nI (min 9999 (p + 1)) := by
    show wSt ω 5 _ 5 = _
    rw [wSt_eq, hp, nI_1]
    exact gmin_nI (a := 9999) (by decide) (by omega)
  refine ⟨⟨⟨⟨?_, ?_⟩, ⟨?_, ?_⟩, ?_, ?_⟩, ⟨?_, ?_, ⟨_, Nat.zero_le _, by omega, e5⟩, ?_, ?_, ?_, ?_⟩, fun i hi => ?_, fun i hi => ?_, fun i hi => ?_⟩, X 4 (by decide), fun j hj => X j (by omega), cy, cr, co⟩
  · rw [cy, X 0 (by decide)]; exact a1
  · rw [cy]; exact a2
  · rw [cr, X 1 (by decide)]; exact b1
  · rw [cr]; exact b2
  · rw [co, X 2 (by decide)]; exact c1
  · rw [co]; exact c2
  · rw [X 3 (by decide)]; exact d1
  · rw [X 4 (by decide)]; exact d2
  · rw [X 6 (by decide)]; exact d4
  · rw [X 7 (by decide)]; exact d5
  · rw [cl, X 11 (by decide)]; exact d6
  · rw [cl]; exact d7
  · rw [cy] at hi
    exact (e1 i hi).mv fun q hq => X _ (by omega)
  · rw [cr] at hi
    exact rok_mv (e2 i hi) cy fun j hj => X _ (by omega)
  · rw [co] at hi
    exact (e3 i hi).mv fun q hq => X _ (by omega)
def gaS (ω : gW) : Int32 := if ω 6 ≤ drV ω then 0 else 1
def seaW (ω : gW) : gW := endW (ysW (rsW (drW ω) (gaS ω) (cR ω)) (cY ω))
theorem SW.sea (hI : WI ω) (hLI : LI ω) : SW ω (seaW ω) := by
  have h1 := SW.dr hI
  have h2 := SW.rs (g := gaS ω) h1.1 (h1.li hLI) (c := cR ω) (by rw [h1.2.2.2.2.1]; exact Nat.le_refl _)
  have h12 := h1.tr h2
  have h3 := SW.ys h12.1 (c := cY ω) (by rw [h12.2.2.2.1]; exact Nat.le_refl _)
  exact (h12.tr h3).tr (SW.en h3.1)
def sesW (ω : gW) (c : Nat) : gW := acc (fun _ w => seaW w) ω c
theorem SW.ses (hI : WI ω) (hLI : LI ω) : ∀ {c : Nat}, SW ω (sesW ω c)
  | 0 => SW.rf hI
  | c + 1 => (SW.ses hI hLI (c := c)).tr (SW.sea (SW.ses hI hLI (c := c)).1 ((SW.ses hI hLI (c := c)).li hLI))
end
section
variable {τ : gτ} {n : Nat} {G G' : gG} {m : Nat} {ω : gW}
abbrev mm (m : Nat) : Nat → Prop := fun b => b = m + 1 ∨ b = m + 8
theorem m_brkL (hM : FM τ G m) (hω : ge G (m + 1) = ω) (hn : 500 < n) {k : Nat} : gOk (l_X11_breaks_4 τ n m (nI k) 299 G) (fun G' => ge G' (m + 1) = shW ω ∧ Fr (fun b => b = m + 1) G G') := by
  unfold l_X11_breaks_4
  refine gOk.mono (ka_loop 295 (fun c q => q.1 = nI (299 - c) ∧ (∀ j, ge q.2 (m + 1) j = if 467 - c ≤ j ∧ j < 467 then ω (j - 5) else ω j) ∧ Fr (fun b => b = m + 1) G q.2) (K := fun G' => (∀ j, ge G' (m + 1) j = if 172 ≤ j ∧ j < 467 then ω (j - 5) else ω j) ∧ Fr (fun b => b = m + 1) G G') (by omega) ⟨rfl, fun j => by rw [if_neg (by omega)]; exact congrFun hω j, Fr.rf⟩ (fun c q hc hI => ?_)) (fun G1 hG => ⟨?_, hG.2⟩)
  · obtain ⟨x2, G1⟩ := q
    obtain ⟨e1, e2, e3⟩ := hI
    have e1 : x2 = nI (299 - c) := e1
    have e3 : Fr (fun b => b = m + 1) G G1 := e3
    have e2 : ∀ j, ge G1 (m + 1) j = if 467 - c ≤ j ∧ j < 467 then ω (j - 5) else ω j := e2
    subst e1
    have hM1 : FM τ G1 m := e3.fm hM (by omega)
    show gOk (b_X11_breaks_4 τ n m (nI k) (nI (299 - c)) G1) _
    unfold b_X11_breaks_4
    by_cases hlt : c < 295
    · have i1 : (167 : Int32) + nI (299 - c) = nI (466 - c) := by
        rw [show (167 : Int32) = nI 167 from rfl, nI_add, show 167 + (299 - c) = 466 - c by omega]
      have i2 : nI (466 - c) - (5 : Int32) = nI (461 - c) := by
        rw [show (5 : Int32) = nI 5 from rfl, nI_sub (by omega), show 466 - c - 5 = 461 - c by omega]
      have i3 : nI (299 - c) + (-1 : Int32) = nI (299 - (c + 1)) := by
        rw [show 299 - c = (299 - (c + 1)) + 1 by omega, pk_m1]
      rw [if_neg (show ¬ nI (299 - c) < (5 : Int32) from nI_nlt (b := 5) (by omega) (by omega)), m_g hM1, m_g hM1, i1, i2, hM1.w (461 - c) rfl (by omega), m_w hM1 (466 - c) rfl (by omega), ka_letE, i3, nI_clamp (by omega)]
      refine ⟨_, rfl, hlt, rfl, fun j => ?_, e3.tr (Fr.e rfl)⟩
      show ge (gse G1 (m + 1) _ _) (m + 1) j = _
      rw [ka_ee, e2 j]
      by_cases hj : j = 466 - c
      · rw [if_pos ⟨rfl, hj⟩, if_pos (by omega), e2, if_neg (by omega), hj, show 466 - c - 5 = 461 - c by omega]
      · rw [if_neg (fun e => hj e.2)]
        by_cases h2 : 467 - c ≤ j ∧ j < 467
        · rw [if_pos h2, if_pos (by omega)]
        · rw [if_neg h2, if_neg (by omega)]
    · have hcN : c = 295 := by omega
      subst hcN
      rw [if_pos (show nI (299 - 295) < (5 : Int32) from nI_lt (a := 4) (b := 5) (by decide) (by decide))]
      exact ⟨_, rfl, e2, e3⟩
  · funext j
    rw [hG.1 j]
    rfl
def b3W (ω : gW) (k : Nat) : Nat → gW
  | 0 => wSt (shW ω) 167 (ω 5)
  | c + 1 => wSt (b3W ω k c) (168 + c) (rv ω k c)
theorem b3W_lo {k j : Nat} (h : j < 167) : ∀ {c : Nat}, b3W ω k c j = ω j
  | 0 => by
    show wSt (shW ω) 167 _ j = _
    rw [wSt_ne (by omega)]
    exact if_neg (by omega)
  | c + 1 => (wSt_ne (by omega)).trans (b3W_lo h)
theorem m_breaks (hM : FM τ G m) (hω : ge G (m + 1) = ω) (hn : 500 < n) {k : Nat} (hk : k < 8) : gOk (f_X11_breaks τ n m (nI k) G) (fun G' => ge G' (m + 1) = brkW ω k ∧ Fr (fun b => b = m + 1) G G') := by
  unfold f_X11_breaks
  rw [ka_bind]
  refine gOk.mono (m_brkL hM hω hn) fun G1 h1 => ?_
  obtain ⟨w1, f1⟩ := h1
  have hM1 : FM τ G1 m := f1.fm hM (by omega)
  obtain ⟨hM2, w2, f2⟩ := m_wr hM1 w1 (k := 167) (v := ω 5)
  unfold k_X11_breaks_37
  rw [ka_letE, m_g hM1, m_g hM1, hM1.w (x := 5) 5 rfl (by decide), m_w hM1 (x := 167) 167 rfl (by decide), show Int32.toNatClampNeg 5 = 5 from rfl, show ge G1 (m + 1) 5 = ω 5 by rw [w1]; exact if_neg (by omega), ka_bind]
  unfold l_X11_breaks_53
  refine gOk.mono (ka_loop 3 (fun c q => q.1 = nI c ∧ ge q.2 (m + 1) = b3W ω k c ∧ Fr (fun b => b = m + 1) (gse G1 (m + 1) 167 (ω 5)) q.2) (K := fun G' => ge G' (m + 1) = b3W ω k 3 ∧ Fr (fun b => b = m + 1) (gse G1 (m + 1) 167 (ω 5)) G') (by omega) ⟨rfl, w2, Fr.rf⟩ (fun c q hc hq => ?_)) (fun G3 h3 => ?_)
  · obtain ⟨x2, G3⟩ := q
    obtain ⟨e1, e2, e3⟩ := hq
    have e1 : x2 = nI c := e1
    have e3 : Fr (fun b => b = m + 1) (gse G1 (m + 1) 167 (ω 5)) G3 := e3
    have e2 : ge G3 (m + 1) = b3W ω k c := e2
    subst e1
    have hM3 : FM τ G3 m := e3.fm hM2 (by omega)
    show gOk (b_X11_breaks_53 τ n m (nI k) (nI c) G3) _
    unfold b_X11_breaks_53
    by_cases hlt : c < 3
    · have i1 : (168 : Int32) + nI c = nI (168 + c) := by rw [show (168 : Int32) = nI 168 from rfl, nI_add]
      obtain ⟨hM4, w4, f4⟩ := m_wr hM3 e2 (k := 168 + c) (v := rv ω k c)
      have er : rv (b3W ω k c) k c = rv ω k c := b3W_lo (by omega)
      rw [if_neg (show ¬ (3 : Int32) ≤ nI c from nI_ge (b := 3) hlt (by decide)), m_g hM3, hM3.of k c rfl rfl (by omega), ka_bs, i1, m_w hM3 (168 + c) rfl (by omega), e2, er, ka_letE, nI_1]
      exact ⟨_, rfl, hlt, rfl, w4, e3.tr f4⟩
    · have hcN : c = 3 := by omega
      subst hcN
      rw [if_pos (show (3 : Int32) ≤ nI 3 from nI_le (Nat.le_refl 3) (by decide))]
      exact ⟨_, rfl, e2, e3⟩
  · obtain ⟨w3, f3⟩ := h3
    have hM3 : FM τ G3 m := f3.fm hM2 (by omega)
    obtain ⟨hM4, w4, f4⟩ := m_wr hM3 w3 (k := 171) (v := rv ω k 9)
    obtain ⟨hM5, w5, f5⟩ := m_wr hM4 w4 (k := 11) (v := gmin 60 (ω 11 + 1))
    obtain ⟨hM6, w6, f6⟩ := m_wr hM5 w5 (k := 8) (v := ω 8 + rv ω k 9)
    obtain ⟨hM7, w7, f7⟩ := m_wr hM6 w6 (k := 9) (v := ω 9 + 1)
    obtain ⟨hM8, w8, f8⟩ := m_wr hM7 w7 (k := 53 + 10 * k + 8) (v := 1)
    obtain ⟨hM9, w9, f9⟩ := m_wr hM8 w8 (k := 53 + 10 * k + 9) (v := 0)
    have r3 : rv (ge G3 (m + 1)) k 9 = rv ω k 9 := by rw [w3]; exact b3W_lo (by omega)
    have r11 : ge (gse G3 (m + 1) 171 (rv ω k 9)) (m + 1) (Int32.toNatClampNeg 11) = ω 11 := by
      rw [w4, show Int32.toNatClampNeg 11 = 11 from rfl, wSt_ne (by decide), b3W_lo (by decide)]
    have r8 : ge (gse (gse G3 (m + 1) 171 (rv ω k 9)) (m + 1) 11 (gmin 60 (ω 11 + 1))) (m + 1) (Int32.toNatClampNeg 8) = ω 8 := by
      rw [w5, show Int32.toNatClampNeg 8 = 8 from rfl, wSt_ne (by decide), wSt_ne (by decide), b3W_lo (by decide)]
    have r5 : rv (ge (gse (gse G3 (m + 1) 171 (rv ω k 9)) (m + 1) 11 (gmin 60 (ω 11 + 1))) (m + 1)) k 9 = rv ω k 9 := by
      rw [w5, rv_lo (by decide) (by omega) (by decide)]
      exact (wSt_ne (by omega)).trans (b3W_lo (by omega))
    have r9 : ge (gse (gse (gse G3 (m + 1) 171 (rv ω k 9)) (m + 1) 11 (gmin 60 (ω 11 + 1))) (m + 1) 8 (ω 8 + rv ω k 9)) (m + 1) (Int32.toNatClampNeg 9) = ω 9 := by
      rw [w6, show Int32.toNatClampNeg 9 = 9 from rfl, wSt_ne (by decide), wSt_ne (by decide), wSt_ne (by decide), b3W_lo (by decide)]
    unfold k_X11_breaks_80
    rw [ka_letE, m_g hM3, hM3.of (w := 9) k 9 rfl rfl (by omega), ka_bs, r3, m_w hM3 (x := 171) 171 rfl (by decide), m_g hM4, m_g hM4, hM4.w (x := 11) 11 rfl (by decide), m_w hM4 (x := 11) 11 rfl (by decide), r11, m_g hM5, hM5.w (x := 8) 8 rfl (by decide), hM5.of (w := 9) k 9 rfl rfl (by omega), ka_bs, m_w hM5 (x := 8) 8 rfl (by decide), r8, r5, m_g hM6, m_w2 hM6 (x := 9) 9 rfl (by decide), r9, m_g hM7, m_at (w := 8) (j := 8) (by omega) rfl, ka_bs, m_w hM7 _ rfl (by omega), m_g hM8, m_at (w := 9) (j := 9) (by omega) rfl, ka_bs, m_w hM8 _ rfl (by omega)]
    exact ⟨_, rfl, w9, (((((((f1.tr f2).tr f3).tr f4).tr f5).tr f6).tr f7).tr f8).tr f9⟩
theorem m_go41 (hM : FM τ G m) (hω : ge G (m + 1) = ω) (hI : WI ω) (hLI : LI ω) (hn : 500 < n) {k : Nat} (hk : k < cR ω) : gOk (k_X11_goesOn_41 τ n m (nI k) G) (fun G' => ge G' (m + 1) = frW ω k ∧ Fr (mm m) G G') := by
  have hr := hI.r1
  unfold k_X11_goesOn_41
  rw [m_g hM, m_at (w := 5) (j := 5) (by omega) rfl, ka_bs, hM.of (w := 5) k 5 rfl rfl (by omega), ka_bs, hω, ka_bind2]
  refine gOk.mono (m_wearsBy hM hω (i := k) (by omega) hI.y1 (hI.r hk) hLI hn) fun p hp => ?_
  obtain ⟨p1, p2⟩ := hp
  have hM6 : FM τ p.2 m := p2.fm hM (by omega)
  have w6 : ge p.2 (m + 1) = ω := (p2 (m + 1) (by omega)).2.2.1.trans hω
  obtain ⟨hM7, w7, f7⟩ := m_wr hM6 w6 (k := 53 + 10 * k + 5) (v := gmin 99 (rv ω k 5 + weS ω k))
  have w7 : ge (gse p.2 (m + 1) (53 + 10 * k + 5) (gmin 99 (rv ω k 5 + weS ω k))) (m + 1) = wrW ω k := w7
  have fA : Fr (mm m) G (gse p.2 (m + 1) (53 + 10 * k + 5) (gmin 99 (rv ω k 5 + weS ω k))) := (p2.mono fun b hb => Or.inr hb).tr (f7.mono fun b hb => Or.inl hb)
  rw [m_w hM6 _ rfl (by omega), p1, hM7.of (w := 6) k 6 rfl rfl (by omega), ka_bs, w7, show rv (wrW ω k) k 6 = rv ω k 6 from (wrW.e (by decide)).trans (if_neg (by decide))]
  unfold frW
  by_cases h6 : rv ω k 6 = 1
  · rw [if_pos h6, if_pos h6]
    exact ⟨_, rfl, w7, fA⟩
  · obtain ⟨hM8, w8, f8⟩ := m_wr hM7 w7 (k := 53 + 10 * k + 3) (v := rv ω k 3 - 1)
    have w8 : ge (gse (gse p.2 (m + 1) (53 + 10 * k + 5) (gmin 99 (rv ω k 5 + weS ω k))) (m + 1) (53 + 10 * k + 3) (rv ω k 3 - 1)) (m + 1) = lnW ω k := w8
    have r3 : ge (gse p.2 (m + 1) (53 + 10 * k + 5) (gmin 99 (rv ω k 5 + weS ω k))) (m + 1) (53 + 10 * k + 3) = rv ω k 3 := by
      rw [w7]
      exact (wrW.e (j := 3) (by decide)).trans (if_neg (by decide))
    rw [if_neg h6, if_neg h6, m_g hM7, m_at (w := 3) (j := 3) (by omega) rfl, ka_bs, m_w2 hM7 _ rfl (by omega), nI_clamp (by omega), r3, hM8.of (w := 3) k 3 rfl rfl (by omega), ka_bs, w8, show rv (lnW ω k) k 3 = rv ω k 3 - 1 from (lnW.e (by decide)).trans (if_pos rfl)]
    by_cases h3 : rv ω k 3 - 1 = 0
    · rw [if_pos h3, if_pos h3, ka_bind]
      refine gOk.mono (m_breaks hM8 w8 hn (k := k) (by omega)) fun G9 h9 => ?_
      exact ⟨_, rfl, h9.1, (fA.tr (f8.mono fun b hb => Or.inl hb)).tr (h9.2.mono fun b hb => Or.inl hb)⟩
    · rw [if_neg h3, if_neg h3]
      exact ⟨_, rfl, w8, fA.tr (f8.mono fun b hb => Or.inl hb)⟩
theorem m_goesOn (hM : FM τ G m) (hω : ge G (m + 1) = ω) (hI : WI ω) (hLI : LI ω) (hn : 500 < n) {k : Nat} (hk : k < cR ω) (g : Int32) : gOk (f_X11_goesOn τ n m (nI k) g G) (fun G' => ge G' (m + 1) = goW ω k g ∧ Fr (mm m) G G') := by
  have hr := hI.r1
  have h9 := (hI.r hk).2.2.1.2.2.2.2.2
  have k19 : ¬ rv ω k 9 ≤ 0 → ∀ s0 : Int32, s0 * rv ω k 9 = plS ω k g → gOk (k_X11_goesOn_19 τ n m (nI k) s0 G) (fun G' => ge G' (m + 1) = goW ω k g ∧ Fr (mm m) G G') := fun h0 s0 hs => by
    unfold k_X11_goesOn_19
    rw [hM.of (w := 9) k 9 rfl rfl (by omega), ka_bs, hω, ka_bind2]
    refine gOk.mono (m_bearsOf hM hω (i := k) (by omega) hI.y1 (hI.r hk) hLI hn) fun p hp => ?_
    obtain ⟨p1, p2⟩ := hp
    have hM6 : FM τ p.2 m := p2.fm hM (by omega)
    have w6 : ge p.2 (m + 1) = ω := (p2 (m + 1) (by omega)).2.2.1.trans hω
    have f2 : Fr (mm m) G p.2 := p2.mono fun b hb => Or.inr hb
    rw [hs, p1]
    unfold goW
    rw [if_neg (fun h => h0 ((pl_0 h9).mp h))]
    by_cases h1 : plS ω k g ≤ beS ω k
    · rw [if_pos h1, if_pos h1]
      exact gOk.mono (m_go41 hM6 w6 hI hLI hn hk) fun G' h => ⟨h.1, f2.tr h.2⟩
    · rw [if_neg h1, if_neg h1, ka_bind]
      exact gOk.mono (m_breaks hM6 w6 hn (k := k) (by omega)) fun G' h => ⟨_, rfl, h.1, f2.tr (h.2.mono fun b hb => Or.inl hb)⟩
  unfold f_X11_goesOn
  rw [hM.of (w := 9) k 9 rfl rfl (by omega), ka_bs, hω]
  by_cases h0 : rv ω k 9 ≤ 0
  · rw [if_pos h0]
    unfold goW
    rw [if_pos ((pl_0 h9).mpr h0)]
    exact m_go41 hM hω hI hLI hn hk
  · rw [if_neg h0]
    by_cases hg : g = 0
    · rw [if_pos hg]
      exact k19 h0 1 (by unfold plS; rw [if_pos hg, Int32.one_mul])
    · rw [if_neg hg]
      exact k19 h0 2 (by unfold plS; rw [if_neg hg, Int32.mul_comm])
theorem m_draw0 (hM : FM τ G m) (hω : ge G (m + 1) = ω) : gOk (f_X11_draw τ m 100 G) (fun q => q.1 = drV ω ∧ ge q.2 (m + 1) = drW ω ∧ Fr (fun b => b = m + 1) G q.2) := by
  obtain ⟨hM2, w2, f2⟩ := m_wr hM hω (k := 12) (v := 1103515245 * ω 12 + 12345)
  unfold f_X11_draw
  rw [m_g hM, m_g hM, hM.w (x := 12) 12 rfl (by decide), m_w hM (x := 12) 12 rfl (by decide)]
  have e : ge G (m + 1) (Int32.toNatClampNeg 12) = ω 12 := by rw [hω]; rfl
  simp only [e]
  have e2 : ge (gse G (m + 1) 12 (1103515245 * ω 12 + 12345)) (m + 1) (Int32.toNatClampNeg 12) = drW ω 12 := by rw [w2]; rfl
  rw [m_g hM2, hM2.w (x := 12) 12 rfl (by decide), ka_chkT (by decide)]
  simp only [e2]
  exact ⟨_, rfl, rfl, w2, f2⟩
theorem m_draw (hM : FM τ G m) (hω : ge G (m + 1) = ω) : ∃ G', f_X11_draw τ m 100 G = some (drV ω, G') ∧ ge G' (m + 1) = drW ω ∧ Fr (fun b => b = m + 1) G G' := by
  obtain ⟨⟨v, G'⟩, h1, h2, h3⟩ := m_draw0 hM hω
  have h2 : v = drV ω := h2
  exact ⟨G', by rw [h1, h2], h3⟩
theorem m_oneSeason (hM : FM τ G m) (hω : ge G (m + 1) = ω) (hI : WI ω) (hLI : LI ω) (hn : 500 < n) : gOk (f_X11_oneSeason τ n m G) (fun G' => ge G' (m + 1) = seaW ω ∧ Fr (mm m) G G') := by
  have hr := hI.r1
  have hy := hI.y1
  obtain ⟨G2, e2, w2, f2⟩ := m_draw hM hω
  have hM2 : FM τ G2 m := f2.fm hM (by omega)
  have s2 := SW.dr hI
  have k21 : ∀ g, g = gaS ω → gOk (k_X11_oneSeason_21 τ n m g G2) (fun G' => ge G' (m + 1) = seaW ω ∧ Fr (mm m) G G') := fun g hg => by
    unfold k_X11_oneSeason_21
    rw [ka_bind]
    unfold l_X11_oneSeason_24
    refine gOk.mono (ka_loop (cR ω) (fun c q => q.1 = nI c ∧ ge q.2 (m + 1) = rsW (drW ω) g c ∧ Fr (mm m) G2 q.2) (K := fun G' => ge G' (m + 1) = rsW (drW ω) g (cR ω) ∧ Fr (mm m) G2 G') (by omega) ⟨rfl, w2, Fr.rf⟩ (fun c q hc hq => ?_)) (fun G3 h3 => ?_)
    · obtain ⟨x2, G3⟩ := q
      obtain ⟨e1, e2, e3⟩ := hq
      have e1 : x2 = nI c := e1
      have e3 : Fr (mm m) G2 G3 := e3
      have e2 : ge G3 (m + 1) = rsW (drW ω) g c := e2
      subst e1
      have hM3 : FM τ G3 m := e3.fm hM2 (by omega)
      have s3 := SW.rs (g := g) s2.1 (s2.li hLI) (c := c) (by rw [s2.2.2.2.2.1]; exact hc)
      have n3 : rsW (drW ω) g c 1 = nI (cR ω) := by rw [s3.1.r0, s3.2.2.2.2.1, s2.2.2.2.2.1]
      show gOk (b_X11_oneSeason_24 τ n m g (nI c) G3) _
      unfold b_X11_oneSeason_24
      rw [hM3.cn.2.1, ka_bs, e2, n3]
      by_cases hlt : c < cR ω
      · rw [if_neg (nI_ge hlt (by omega)), m_isWhole hM3 (by omega), ka_bs, e2]
        by_cases h8 : rv (rsW (drW ω) g c) c 8 = 0
        · rw [if_pos h8, if_neg ka_n10, ka_bind]
          refine gOk.mono (m_goesOn hM3 e2 s3.1 (s3.li (s2.li hLI)) hn (k := c) (by rw [s3.2.2.2.2.1, s2.2.2.2.2.1]; exact hlt) g) fun G4 h4 => ?_
          rw [ka_letE, nI_1]
          refine ⟨_, rfl, hlt, rfl, ?_, e3.tr h4.2⟩
          show ge G4 (m + 1) = (if rv (rsW (drW ω) g c) c 8 = 0 then goW (rsW (drW ω) g c) c g else rsW (drW ω) g c)
          rw [if_pos h8]
          exact h4.1
        · rw [if_neg h8, if_pos rfl, ka_letE, nI_1]
          refine ⟨_, rfl, hlt, rfl, ?_, e3⟩
          show ge G3 (m + 1) = (if rv (rsW (drW ω) g c) c 8 = 0 then goW (rsW (drW ω) g c) c g else rsW (drW ω) g c)
          rw [if_neg h8]
          exact e2
      · have hcN : c = cR ω := by omega
        rw [if_pos (nI_le (by omega) (by omega))]
        exact ⟨_, rfl, by rw [← hcN]; exact e2, e3⟩
    · obtain ⟨w3, f3⟩ := h3
      have hM3 : FM τ G3 m := f3.fm hM2 (by omega)
      have s3 := s2.tr (SW.rs (g := g) s2.1 (s2.li hLI) (c := cR ω) (by rw [s2.2.2.2.2.1]; exact Nat.le_refl _))
      rw [ka_letE]
      unfold k_X11_oneSeason_52
      rw [ka_bind]
      unfold l_X11_oneSeason_54
      refine gOk.mono (ka_loop (cY ω) (fun c q => q.1 = nI c ∧ ge q.2 (m + 1) = ysW (rsW (drW ω) g (cR ω)) c ∧ Fr (mm m) G3 q.2) (K := fun G' => ge G' (m + 1) = ysW (rsW (drW ω) g (cR ω)) (cY ω) ∧ Fr (mm m) G3 G') (by omega) ⟨rfl, w3, Fr.rf⟩ (fun c q hc hq => ?_)) (fun G4 h4 => ?_)
      · obtain ⟨x2, G4⟩ := q
        obtain ⟨e1, e2, e3⟩ := hq
        have e1 : x2 = nI c := e1
        have e3 : Fr (mm m) G3 G4 := e3
        have e2 : ge G4 (m + 1) = ysW (rsW (drW ω) g (cR ω)) c := e2
        subst e1
        have hM4 : FM τ G4 m := e3.fm hM3 (by omega)
        have s4 := s3.tr (SW.ys s3.1 (c := c) (by rw [s3.2.2.2.1]; exact hc))
        generalize hw4 : ysW (rsW (drW ω) g (cR ω)) c = w4 at e2 s4
        have hnext : ysW (rsW (drW ω) g (cR ω)) (c + 1) = ytW w4 c := by rw [← hw4]; rfl
        have n4 : w4 0 = nI (cY ω) := by rw [s4.1.y0, s4.2.2.2.1]
        show gOk (b_X11_oneSeason_54 τ n m (nI c) G4) _
        unfold b_X11_oneSeason_54
        rw [hM4.cn.1, ka_bs, e2, n4]
        by_cases hlt : c < cY ω
        · rw [if_neg (nI_ge hlt (by omega)), hM4.ofYarn (w := 1) c 1 rfl rfl (by omega), ka_bs, e2]
          unfold ytW at hnext
          by_cases h1 : yv w4 c 1 ≤ 0
          · rw [if_pos h1, ka_letE, nI_1]
            rw [if_pos h1] at hnext
            exact ⟨_, rfl, hlt, rfl, e2.trans hnext.symm, e3⟩
          · rw [if_neg h1] at hnext
            obtain ⟨G5, e5, w5, f5⟩ := m_draw hM4 e2
            have hM5 : FM τ G5 m := f5.fm hM4 (by omega)
            have f35 : Fr (mm m) G3 G5 := e3.tr (f5.mono fun b hb => Or.inl hb)
            rw [if_neg h1, ka_b2 e5, m_g hM5, hM5.w (x := 7) 7 rfl (by decide), w5, show drW w4 (Int32.toNatClampNeg 7) = w4 7 from drW.xx (by decide)]
            by_cases h2 : w4 7 ≤ drV w4
            · rw [if_pos h2, ka_letE, nI_1]
              rw [if_pos h2] at hnext
              exact ⟨_, rfl, hlt, rfl, w5.trans hnext.symm, f35⟩
            · rw [if_neg h2] at hnext
              obtain ⟨hM6, w6, f6⟩ := m_wr hM5 w5 (k := 13 + 4 * c + 2) (v := gmin 9 (yv w4 c 2 + 1))
              rw [if_neg h2, m_g hM5, show f_X11_yarnAt (nI c) 2 = some (nI (13 + 4 * c + 2)) from yat_e c 2, ka_bs, hM5.ofYarn (w := 2) c 2 rfl rfl (by omega), ka_bs, w5, (yt_pre c).mpr trivial, m_w hM5 _ rfl (by omega), ka_letE, nI_1]
              exact ⟨_, rfl, hlt, rfl, w6.trans hnext.symm, f35.tr (f6.mono fun b hb => Or.inl hb)⟩
        · have hcN : c = cY ω := by omega
          rw [if_pos (nI_le (by omega) (by omega))]
          exact ⟨_, rfl, by rw [← hcN, hw4]; exact e2, e3⟩
      · obtain ⟨w4, f4⟩ := h4
        have hM4 : FM τ G4 m := f4.fm hM3 (by omega)
        rw [ka_letE]
        unfold k_X11_oneSeason_116
        obtain ⟨hM5, w5, f5⟩ := m_wr hM4 w4 (k := 5) (v := gmin 9999 (ysW (rsW (drW ω) g (cR ω)) (cY ω) 5 + 1))
        rw [m_g hM4, m_g hM4, hM4.w (x := 5) 5 rfl (by decide), m_w hM4 (x := 5) 5 rfl (by decide), show Int32.toNatClampNeg 5 = 5 from rfl, w4]
        refine ⟨_, rfl, ?_, (((f2.mono fun b hb => Or.inl hb).tr f3).tr f4).tr (f5.mono fun b hb => Or.inl hb)⟩
        rw [w5, hg]
        rfl
  unfold f_X11_oneSeason
  rw [ka_b2 e2, m_g hM2, hM2.w (x := 6) 6 rfl (by decide), w2, show drW ω (Int32.toNatClampNeg 6) = ω 6 from drW.xx (by decide)]
  by_cases h6 : ω 6 ≤ drV ω
  · rw [if_pos h6]; exact k21 0 (by unfold gaS; rw [if_pos h6])
  · rw [if_neg h6]; exact k21 1 (by unfold gaS; rw [if_neg h6])
end
