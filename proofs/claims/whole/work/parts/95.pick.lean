/-! CALLS: pick -/
section
variable {τ : gτ} {n : Nat} {G G' : gG} {x m s t l l' o : Nat} {ω ω' : gW} {im : Option gW} {me : List gW} {ta : List Nat} {fa : Int32}
def pkW (ω : gW) (k : Nat) : gW := fun j => if 53 + 10 * k ≤ j ∧ j < 133 then ω (j + 10) else ω j
def pickW (ω : gW) (k : Nat) : gW := wSt (pkW ω k) 1 (nI (cR ω - 1))
theorem pickW.xx {k j : Nat} (h1 : j ≠ 1) (h : j < 53 ∨ 133 ≤ j) : pickW ω k j = ω j := by
  unfold pickW pkW
  rw [wSt_ne h1, if_neg (by omega)]
theorem pickW.e {k i j : Nat} (hi : i < 8) (hj : j < 10) : rv (pickW ω k) i j = if k ≤ i then rv ω (i + 1) j else rv ω i j := by
  unfold pickW
  rw [rv_lo (by decide) (by omega) hj]
  unfold rv pkW
  by_cases h : k ≤ i
  · rw [if_pos h, if_pos (by omega), show 53 + 10 * i + j + 10 = 53 + 10 * (i + 1) + j by omega]
  · rw [if_neg h, if_neg (by omega)]
theorem pickW.c {k : Nat} (h8 : cR ω ≤ 8) : cR (pickW ω k) = cR ω - 1 := by
  show (pickW ω k 1).toNatClampNeg = _
  unfold pickW
  rw [wSt_eq, nI_clamp (by omega)]
theorem pickW.wi {k : Nat} (hI : WI ω) (hk : k < cR ω) : WI (pickW ω k) := by
  have hr := hI.r1
  have X : ∀ j, j ≠ 1 → (j < 53 ∨ 133 ≤ j) → pickW ω k j = ω j := fun j h1 h => pickW.xx h1 h
  have cy : cY (pickW ω k) = cY ω := by unfold cY; rw [X 0 (by decide) (by decide)]
  have co : cO (pickW ω k) = cO ω := by unfold cO; rw [X 2 (by decide) (by decide)]
  refine wi_acts hI ⟨?_, ?_⟩ ⟨?_, ?_⟩ ⟨?_, ?_⟩ (X 3 (by decide) (by decide)) (X 4 (by decide) (by decide)) (X 5 (by decide) (by decide)) (X 6 (by decide) (by decide)) (X 7 (by decide) (by decide)) (X 11 (by decide) (by decide)) (fun i hi => ?_) (fun i hi => ?_) (fun i hi => ?_)
  · rw [cy, X 0 (by decide) (by decide)]; exact hI.y0
  · rw [cy]; exact hI.y1
  · rw [pickW.c hr]
    exact wSt_eq
  · rw [pickW.c hr]; omega
  · rw [co, X 2 (by decide) (by decide)]; exact hI.o0
  · rw [co]; exact hI.o1
  · rw [cy] at hi
    have hy := hI.y1
    refine (hI.y hi).mv fun q hq => ?_
    exact X _ (by omega) (by omega)
  · rw [pickW.c hr] at hi
    by_cases h : k ≤ i
    · exact rok_mv (hI.r (i := i + 1) (by omega)) cy fun j hj => by rw [pickW.e (by omega) hj, if_pos h]
    · exact rok_mv (hI.r (i := i) (by omega)) cy fun j hj => by rw [pickW.e (by omega) hj, if_neg h]
  · rw [co] at hi
    have hy := hI.o1
    refine (hI.o hi).mv fun q hq => ?_
    exact X _ (by omega) (by omega)
theorem pickW.iv {k : Nat} (hI : IV ω im me ta) (hk : k < cR ω) : IV (pickW ω k) im me ta :=
  iv_of hI (pickW.wi hI.1 hk) (pickW.xx (by decide) (by decide)) (fun j hj => pickW.xx (by omega) (by omega))
theorem s_removeRope (hF : FS τ G s) (hV : VS G s ω) (hI : WI ω) (hn : 500 < n) {k : Nat} (hk : k < cR ω) : gOk (f_X6_removeRope τ n s (nI k) G) (fun G' => VS G' s (pickW ω k) ∧ FS τ G' s ∧ Fr (spn s) G G') := by
  have hr := hI.r1
  obtain ⟨d0, d1, d2, d3, d4, d5, d6, d7, d8, d9, d10⟩ := hV.cn
  unfold f_X6_removeRope
  rw [ka_bind]
  unfold l_X6_removeRope_2
  refine gOk.mono (ka_loop (cR ω - 1 - k) (fun c q => q.1 = nI (k + c) ∧ (∀ i, i < cR ω → RV q.2 (s + 16 + i) ω (if k ≤ i ∧ i < k + c then i + 1 else i)) ∧ Fr (fun b => s + 16 ≤ b ∧ b ≤ s + 23) G q.2) (K := fun G' => (∀ i, i < cR ω → RV G' (s + 16 + i) ω (if k ≤ i ∧ i + 1 < cR ω then i + 1 else i)) ∧ Fr (fun b => s + 16 ≤ b ∧ b ≤ s + 23) G G') (by omega) ⟨rfl, fun i hi => by rw [if_neg (by omega)]; exact hV.r hi, Fr.rf⟩ (fun c q hc hq => ?_)) (fun G1 h1 => ?_)
  · obtain ⟨x2, G1⟩ := q
    obtain ⟨e1, e2, e3⟩ := hq
    have e1 : x2 = nI (k + c) := e1
    have e3 : Fr (fun b => s + 16 ≤ b ∧ b ≤ s + 23) G G1 := e3
    have e2 : ∀ i, i < cR ω → RV G1 (s + 16 + i) ω (if k ≤ i ∧ i < k + c then i + 1 else i) := e2
    subst e1
    have hF1 : FS τ G1 s := hF.to e3 (fun b h1 h2 h3 => by omega)
    have n1 : gi G1 6 5 s = nI (cR ω) := by rw [(e3 s (by omega)).1, d1, hI.r0]
    show gOk (b_X6_removeRope_2 τ n s (nI (k + c)) G1) _
    unfold b_X6_removeRope_2
    rw [if_neg (nI_pos (by omega)), n1, nI_1]
    by_cases hlt : k + c + 1 < cR ω
    · have hRi := e2 (k + c + 1) hlt
      rw [if_neg (show ¬ (k ≤ k + c + 1 ∧ k + c + 1 < k + c) by omega)] at hRi
      have hK := hI.r (i := k + c + 1) hlt
      obtain ⟨G2, e4, hR4, f4⟩ := s_rb (p := s + 16 + (k + c)) (q := s + 16 + (k + c + 1)) (G := G1) (by omega) hRi (bt01 hK.2.2.1.2.2.2.1) (bt01 hK.2.2.1.2.2.2.2.1)
      rw [if_neg (nI_ge hlt (by omega)), hF1.rf.2.1, ka_bs, hF1.r (i := k + c) (by omega), ka_bs, hF1.r (i := k + c + 1) (by omega), e4, ka_bs, ka_letE]
      refine ⟨_, rfl, by omega, rfl, fun i hi => ?_, e3.tr (f4.mono fun b hb => by have hb : b = s + 16 + (k + c) := hb; omega)⟩
      show RV G2 (s + 16 + i) ω _
      by_cases hik : i = k + c
      · rw [hik, if_pos (by omega)]; exact hR4
      · have := (f4 (s + 16 + i) (fun h => hik (by have h : s + 16 + i = s + 16 + (k + c) := h; omega))).vr (e2 i hi)
        by_cases h2 : k ≤ i ∧ i < k + c
        · rw [if_pos (by omega)]; rw [if_pos h2] at this; exact this
        · rw [if_neg (by omega)]; rw [if_neg h2] at this; exact this
    · rw [if_pos (nI_le (by omega) (by omega))]
      refine ⟨_, rfl, fun i hi => ?_, e3⟩
      have := e2 i hi
      by_cases h2 : k ≤ i ∧ i < k + c
      · rw [if_pos (by omega)]; rw [if_pos h2] at this; exact this
      · rw [if_neg (by omega)]; rw [if_neg h2] at this; exact this
  · obtain ⟨e2, e3⟩ := h1
    have n1 : gi G1 6 5 s = nI (cR ω) := by rw [(e3 s (by omega)).1, d1, hI.r0]
    have hh := (e3 s (by omega)).1
    unfold k_X6_removeRope_39
    rw [ka_letE, ka_letE]
    refine ⟨_, rfl, ?_⟩
    show VS _ s (pickW ω k) ∧ FS τ _ s ∧ Fr (spn s) G _
    generalize hG2 : gsi G1 6 5 s (gi G1 6 5 s - 1) = G2
    have f2 : Fr (fun b => b = s) G1 G2 := by rw [← hG2]; exact Fr.i rfl
    have f : Fr (fun b => b = s ∨ (s + 16 ≤ b ∧ b ≤ s + 23)) G G2 := (e3.mono fun b hb => Or.inr hb).tr (f2.mono fun b hb => Or.inl hb)
    have X : ∀ j, j ≠ 1 → (j < 53 ∨ 133 ≤ j) → pickW ω k j = ω j := fun j h1 h => pickW.xx h1 h
    have hd : gi G2 6 4 s = ω 0 ∧ gi G2 6 5 s = nI (cR ω - 1) ∧ gi G2 6 6 s = ω 2 ∧ gi G2 6 7 s = ω 3 ∧ gi G2 6 8 s = ω 6 ∧ gi G2 6 9 s = ω 7 ∧ gi G2 6 10 s = ω 5 ∧ gi G2 6 11 s = ω 12 ∧ gi G2 6 12 s = ω 10 ∧ gi G2 6 13 s = ω 8 ∧ gi G2 6 14 s = ω 9 := by
      rw [← hG2, n1, show (1 : Int32) = nI 1 from rfl, nI_sub (show 1 ≤ cR ω by omega)]
      simp only [ka_ii]
      simp [hh, d0, d2, d3, d4, d5, d6, d7, d8, d9, d10]
    have hyy := hI.y1
    have hoo := hI.o1
    refine ⟨?_, ?_, f.mono fun b hb => by show s ≤ b ∧ b ≤ s + 31; rcases hb with h | h <;> omega⟩
    · refine vs_acts hI hV ?_ (fun i hi => ?_) (fun i hi => ?_) (fun i hi => ?_) (X 11 (by decide) (by decide)) (fun j h1 h2 => X j (by omega) (by omega)) (f (s + 4) (by omega)) (f (s + 5) (by omega))
      · rw [X 0 (by decide) (by decide), X 2 (by decide) (by decide), X 3 (by decide) (by decide), X 6 (by decide) (by decide), X 7 (by decide) (by decide), X 5 (by decide) (by decide), X 12 (by decide) (by decide), X 10 (by decide) (by decide), X 8 (by decide) (by decide), X 9 (by decide) (by decide), show pickW ω k 1 = nI (cR ω - 1) from wSt_eq]
        exact hd
      · have e : cY (pickW ω k) = cY ω := by unfold cY; rw [X 0 (by decide) (by decide)]
        rw [e] at hi
        exact (hV.yv hi).same (f (s + 6 + i) (by omega)) fun q hq => X _ (by omega) (by omega)
      · rw [pickW.c hr] at hi
        have := e2 i (by omega)
        refine this.same (f2 (s + 16 + i) (by omega)) fun j hj => ?_
        rw [pickW.e (by omega) hj]
        by_cases h : k ≤ i
        · rw [if_pos h, if_pos (by omega)]
        · rw [if_neg h, if_neg (by omega)]
      · have e : cO (pickW ω k) = cO ω := by unfold cO; rw [X 2 (by decide) (by decide)]
        rw [e] at hi
        exact (hV.ov hi).same (f (s + 24 + i) (by omega)) fun q hq => X _ (by omega) (by omega)
    · have hF1 : FS τ G1 s := hF.to e3 (fun b h1 h2 h3 => by omega)
      rw [← hG2]
      exact hF1
theorem m_pickL (hM : FM τ G m) (hω : ge G (m + 1) = ω) (hn : 500 < n) {k : Nat} (hk : k < 8) : gOk (l_X11_pick_30 τ n m (nI (53 + 10 * k)) G) (fun G' => ge G' (m + 1) = pkW ω k ∧ Fr (fun b => b = m + 1) G G') := by
  unfold l_X11_pick_30
  refine gOk.mono (ka_loop (80 - 10 * k) (fun c q => q.1 = nI (53 + 10 * k + c) ∧ (∀ j, ge q.2 (m + 1) j = if 53 + 10 * k ≤ j ∧ j < 53 + 10 * k + c then ω (j + 10) else ω j) ∧ Fr (fun b => b = m + 1) G q.2) (K := fun G' => (∀ j, ge G' (m + 1) j = if 53 + 10 * k ≤ j ∧ j < 133 then ω (j + 10) else ω j) ∧ Fr (fun b => b = m + 1) G G') (by omega) ⟨rfl, fun j => by rw [if_neg (by omega)]; exact congrFun hω j, Fr.rf⟩ (fun c q hc hI => ?_)) (fun G1 hG => ⟨?_, hG.2⟩)
  · obtain ⟨x4, G1⟩ := q
    obtain ⟨e1, e2, e3⟩ := hI
    have e1 : x4 = nI (53 + 10 * k + c) := e1
    have e3 : Fr (fun b => b = m + 1) G G1 := e3
    have e2 : ∀ j, ge G1 (m + 1) j = if 53 + 10 * k ≤ j ∧ j < 53 + 10 * k + c then ω (j + 10) else ω j := e2
    subst e1
    have hM1 : FM τ G1 m := e3.fm hM (by omega)
    show gOk (b_X11_pick_30 τ n m (nI (53 + 10 * k + c)) G1) _
    unfold b_X11_pick_30
    rw [show nI (53 + 10 * k + c) + (10 : Int32) = nI (53 + 10 * k + c + 10) from ka_ix rfl]
    by_cases hlt : c < 80 - 10 * k
    · rw [if_neg (show ¬ (143 : Int32) ≤ nI (53 + 10 * k + c + 10) from nI_ge (b := 143) (by omega) (by decide)), m_g hM1, m_g hM1, hM1.w (53 + 10 * k + c + 10) rfl (by omega), m_w hM1 (53 + 10 * k + c) rfl (by omega), ka_letE, nI_1, nI_clamp (by omega)]
      refine ⟨_, rfl, hlt, rfl, fun j => ?_, e3.tr (Fr.e rfl)⟩
      show ge (gse G1 (m + 1) _ _) (m + 1) j = _
      rw [ka_ee, e2 j]
      by_cases hj : j = 53 + 10 * k + c
      · rw [if_pos ⟨rfl, hj⟩, if_pos (by omega), e2, if_neg (by omega), hj]
      · rw [if_neg (fun e => hj e.2)]
        by_cases h2 : 53 + 10 * k ≤ j ∧ j < 53 + 10 * k + c
        · rw [if_pos h2, if_pos (by omega)]
        · rw [if_neg h2, if_neg (by omega)]
    · rw [if_pos (show (143 : Int32) ≤ nI (53 + 10 * k + c + 10) from nI_le (a := 143) (by omega) (by omega))]
      refine ⟨_, rfl, fun j => ?_, e3⟩
      rw [e2 j, show 53 + 10 * k + c = 133 by omega]
  · funext j
    rw [hG.1 j]
    rfl
theorem c_pick (hC : CV τ G x s t l l' ω im me ta fa) (hI : IV ω im me ta) (hn : 500 < n) {k : Nat} (hk : k < cR ω) : gOk (f_X10_pick τ n x (nI k) G) (fun q => q.1 = .inr (nI (cR ω - 1)) ∧ CV τ q.2 x s t l l' (pickW ω k) im (pushM me ω) ta fa ∧ Fr (fun b => x ≤ b ∧ b ≤ x + 511) G q.2) := by
  have hr := hI.1.r1
  have hsl := hC.sl
  unfold f_X10_pick
  rw [ka_bxr (c_ropeOf hC hI.1 hk), hC.fs.1.kr (by omega), hC.rf.2.2.2.1, ka_bs, hC.rf.2.2.2.2.2.2.2.2.2.2.1, ka_bs, ka_bind]
  refine gOk.mono (c_keep hC hI hn) fun G1 h1 => ?_
  obtain ⟨hC1, hf1⟩ := h1
  rw [hC1.rf.2.2.2.2.2.2.2.2.2.2.1, ka_bs, ka_bind]
  refine gOk.mono (s_removeRope hC1.fs.1 hC1.vs hI.1 hn hk) fun G2 h2 => ?_
  obtain ⟨q2, q3, q4⟩ := h2
  have hC2 := hC1.world hI.push q4 q3 q2 (pickW.xx (by decide) (by decide)) (fun j hj => pickW.xx (by omega) (by omega))
  rw [hC2.rf.2.2.2.2.2.2.2.2.2.2.1, ka_bs, hC2.vs.cn.2.1]
  refine ⟨_, rfl, congrArg Sum.inr wSt_eq, hC2, (hf1.mono fun b hb => by omega).tr (q4.mono fun b hb => by have hb : s ≤ b ∧ b ≤ s + 31 := hb; omega)⟩
theorem m_pick (hM : MV τ G m ω im me ta fa) (hI : IV ω im me ta) (hn : 6000 < n) {k : Nat} (hk : k < cR ω) : gOk (f_X11_pick τ n m (nI k) G) (fun p => Th [x_IOE] (.inr (nI (cR ω - 1))) p.1 (gi p.2 11 0 m) ∧ (∃ ω2, WE (pickW ω k) ω2 ∧ MV τ p.2 m ω2 im (pushM me ω) ta fa) ∧ Fr (fun b => m ≤ b ∧ b ≤ m + 10) G p.2) := by
  have hr := hI.1.r1
  have hM2 : MV τ (gsi G 11 0 m 0) m ω im me ta fa := hM.th0
  unfold f_X11_pick
  rw [ka_letE, (m_no hM2.1 hM2.2.1 hI.1 _).2.1, ka_bs, if_neg (no_k hk (by omega)), ka_b2 m_thIf0, if_pos rfl, ka_bind]
  refine gOk.mono (m_remembers hM2 hI.2.2.2.1.1 hn) fun G3 h3 => ?_
  obtain ⟨hM3, th3, hf3⟩ := h3
  rw [show f_X11_at (nI k) 0 = some (nI (53 + 10 * k)) from at_e k 0, ka_bs, ka_bind]
  refine gOk.mono (m_pickL hM3.1 hM3.2.1 (by omega) (k := k) (by omega)) fun G4 h4 => ?_
  obtain ⟨w4, hf4⟩ := h4
  have hM4 : FM τ G4 m := hf4.fm hM3.1 (by omega)
  obtain ⟨hM5, w5, hf5⟩ := m_wr hM4 w4 (k := 1) (v := nI (cR ω - 1))
  unfold k_X11_pick_61
  have e : ge G4 (m + 1) (Int32.toNatClampNeg 1) - 1 = nI (cR ω - 1) := by
    rw [w4, show Int32.toNatClampNeg 1 = 1 from rfl, show pkW ω k 1 = ω 1 from if_neg (by omega), hI.1.r0]
    exact nI_sub (b := 1) (by omega)
  rw [ka_letE, m_g hM4, m_w2 hM4 (x := 1) 1 rfl (by omega), e, hM5.cn.2.1, ka_bs, w5, wSt_eq]
  have hfA := hf4.tr hf5
  refine ⟨_, rfl, ⟨?_, rfl⟩, ⟨pickW ω k, WE.rf, hM3.world hfA w5⟩, ?_⟩
  · rw [(hfA m (by omega)).1, th3]
    exact th_set
  · have fth : Fr (fun b => m ≤ b ∧ b ≤ m + 10) G (gsi G 11 0 m 0) := Fr.i ⟨Nat.le_refl _, by omega⟩
    exact (fth.tr (hf3.mono fun b hb => by omega)).tr (hfA.mono fun b hb => by omega)
theorem op_pick (hm : m = x + 512) (ho : o = m + 11) (hτ : gn τ o = 1) (hn : 6000 < n) (hC : CV τ G x s t l l' ω im me ta fa) (hM : MV τ G m ω im me ta fa) (hI : IV ω im me ta) (y : Int32) : gOk (f_L_pick τ n x y o G) (fun q => gOk (f_X11_pick τ n m y q.2) (fun p => q.1 = gi p.2 11 0 m ∧ (q.1 = 0 → gl p.2 o 0 = p.1.toInt64) ∧ ST τ x m p.2)) := by
  have hr := hI.1.r1
  unfold f_L_pick
  rcases arg_ix y (N := cR ω) (by omega) with ⟨k, hk, rfl⟩ | ⟨hno, -⟩
  · exact join_x (α := Int32) hm ho hτ (by decide) hM (pickW.iv hI.push hk) (c_pick hC hI (by omega) hk) (fun G1 hM1 => m_pick hM1 hI hn hk)
  · refine join_q (ans := .inl x_IOE) hm ho hτ (by decide) hC hM hI ⟨_, (by unfold f_X10_pick; exact ka_bxl (c_ropeNo hC hI.1 hno)), rfl, QC.rf⟩ (fun G1 hM1 => ?_)
    have hM2 : FM τ (gsi G1 11 0 m 0) m := QM.th.fm hM1.1
    have hω2 : ge (gsi G1 11 0 m 0) (m + 1) = ω := hM1.2.1
    unfold f_X11_pick
    rw [ka_letE, (m_no hM2 hω2 hI.1 _).2.1, ka_bs, if_pos hno, ka_b2 m_thIf1, if_neg ka_n10]
    refine ⟨_, rfl, ?_, QM.th.tr QM.th⟩
    show gCode [x_IOE] x_IOE 1 = some _
    rw [th_set]
    rfl
end
