/-! CALLS: lasts -/
section
def smN (f : Nat → Nat) : Nat → Nat
  | 0 => 0
  | i + 1 => smN f i + f i
theorem smN_le {f g : Nat → Nat} : ∀ {c : Nat}, (∀ i, i < c → f i ≤ g i) → smN f c ≤ smN g c
  | 0, _ => Nat.le_refl 0
  | c + 1, h => Nat.add_le_add (smN_le (c := c) fun i hi => h i (by omega)) (h c (by omega))
theorem smN_b {f : Nat → Nat} {B : Nat} : ∀ {c : Nat}, (∀ i, i < c → f i ≤ B) → smN f c ≤ B * c
  | 0, _ => Nat.zero_le _
  | c + 1, h => by
    have h1 := smN_b (f := f) (B := B) (c := c) fun i hi => h i (by omega)
    have h2 := h c (by omega)
    show smN f c + f c ≤ B * (c + 1)
    rw [Nat.mul_succ]
    omega
theorem smN_min {f : Nat → Nat} {r : Nat} : ∀ {c : Nat}, ∃ d, smN (fun i => min (f i) (r + 1)) c = smN (fun i => min (f i) r) c + d ∧ d * r ≤ smN (fun i => min (f i) r) c
  | 0 => ⟨0, rfl, by simp⟩
  | c + 1 => by
    obtain ⟨d, h1, h2⟩ := smN_min (f := f) (r := r) (c := c)
    by_cases h : r + 1 ≤ f c
    · refine ⟨d + 1, ?_, ?_⟩
      · show smN (fun i => min (f i) (r + 1)) c + min (f c) (r + 1) = smN (fun i => min (f i) r) c + min (f c) r + (d + 1)
        omega
      · show (d + 1) * r ≤ smN (fun i => min (f i) r) c + min (f c) r
        rw [Nat.succ_mul]
        omega
    · refine ⟨d, ?_, ?_⟩
      · show smN (fun i => min (f i) (r + 1)) c + min (f c) (r + 1) = smN (fun i => min (f i) r) c + min (f c) r + d
        omega
      · show d * r ≤ smN (fun i => min (f i) r) c + min (f c) r
        omega
variable {ω : gW}
def lnN (ω : gW) (i : Nat) : Nat := (yv ω i 1).toNatClampNeg
theorem lnN_e (hI : WI ω) {i : Nat} (hi : i < cY ω) : yv ω i 1 = nI (lnN ω i) ∧ lnN ω i ≤ 200 := by
  obtain ⟨a, -, a2, ha⟩ := (hI.y hi).2.1
  have e : lnN ω i = a := by unfold lnN; rw [ha, nI_clamp (by omega)]
  rw [e]
  exact ⟨ha, a2⟩
def usN (ω : gW) (v r c : Nat) : Nat := smN (fun i => min (lnN ω i / v) r) c
def pcN (ω : gW) (v c : Nat) : Nat := smN (fun i => lnN ω i / v) c
abbrev okL (ω : gW) (v r : Nat) : Prop := 3 * r ≤ usN ω v r (cY ω)
theorem okL_dn {v r : Nat} (h : okL ω v (r + 1)) : okL ω v r := by
  obtain ⟨d, h1, h2⟩ := smN_min (f := fun i => lnN ω i / v) (r := r) (c := cY ω)
  have h1 : usN ω v (r + 1) (cY ω) = usN ω v r (cY ω) + d := h1
  have h2 : d * r ≤ usN ω v r (cY ω) := h2
  have h : 3 * (r + 1) ≤ usN ω v (r + 1) (cY ω) := h
  show 3 * r ≤ usN ω v r (cY ω)
  rcases Nat.lt_or_ge d 4 with hd | hd
  · omega
  · exact Nat.le_trans (Nat.mul_le_mul_right r (by omega : 3 ≤ d)) h2
theorem okL_all {v : Nat} : ∀ {r k : Nat}, okL ω v (k + r) → okL ω v k
  | 0, _, h => h
  | r + 1, k, h => okL_all (r := r) (okL_dn h)
theorem okL_un {v p q : Nat} (h1 : okL ω v p) (h2 : ¬ okL ω v (p + 1)) (h3 : okL ω v q) (h4 : ¬ okL ω v (q + 1)) : p = q := by
  rcases Nat.lt_trichotomy p q with h | h | h
  · exact absurd (okL_all (r := q - (p + 1)) (k := p + 1) (by rw [show p + 1 + (q - (p + 1)) = q by omega]; exact h3)) h2
  · exact h
  · exact absurd (okL_all (r := p - (q + 1)) (k := q + 1) (by rw [show q + 1 + (p - (q + 1)) = p by omega]; exact h1)) h4
theorem pcN_b (hI : WI ω) {v c : Nat} (hc : c ≤ cY ω) : pcN ω v c ≤ 200 * c :=
  smN_b fun i hi => Nat.le_trans (Nat.div_le_self _ _) (lnN_e hI (by omega)).2
theorem usN_p {v r c : Nat} : usN ω v r c ≤ pcN ω v c := smN_le fun i _ => Nat.min_le_left _ _
theorem usN_b (hI : WI ω) {v r c : Nat} (hc : c ≤ cY ω) : usN ω v r c ≤ 200 * c := Nat.le_trans usN_p (pcN_b hI hc)
theorem okL_ex (hI : WI ω) (v : Nat) : ∃ R, okL ω v R ∧ ¬ okL ω v (R + 1) := by
  have hy := hI.y1
  obtain ⟨R, h1, h2⟩ := pk_least (fun k => ¬ okL ω v (k + 1)) ⟨700, fun h => by
    have h : 3 * (700 + 1) ≤ usN ω v (700 + 1) (cY ω) := h
    have := usN_b hI (v := v) (r := 700 + 1) (Nat.le_refl (cY ω))
    omega⟩
  refine ⟨R, ?_, h1⟩
  rcases Nat.eq_zero_or_pos R with h0 | h0
  · rw [h0]; exact Nat.zero_le _
  · have := h2 (R - 1) (by omega)
    rw [show R - 1 + 1 = R by omega] at this
    exact Decidable.of_not_not this
end
section
variable {τ : gτ} {n : Nat} {G G' : gG} {x m s t l l' o : Nat} {ω : gW} {im : Option gW} {me : List gW} {ta : List Nat} {fa : Int32}
theorem div_v {a v : Nat} (ha : a ≤ 200) (hv : 1 ≤ v) (hv2 : v ≤ 200) : nI a / nI v = nI (a / v) := pk_div (by omega) (by omega) (by omega)
theorem c_usable (hC : CV τ G x s t l l' ω im me ta fa) (hI : WI ω) (hn : 500 < n) {v r : Nat} (hv : 1 ≤ v) (hv2 : v ≤ 200) (hr : r < 2000) : f_X10_usablePieces τ n x (nI v) (nI r) G = some (nI (usN ω v r (cY ω))) := by
  have hy := hI.y1
  have e : l_X10_usablePieces_5 τ n x (nI v) (nI r) 0 0 G = some (nI (usN ω v r (cY ω))) := by
    unfold l_X10_usablePieces_5
    refine ka_up (cY ω) (fun c => (nI (usN ω v r c), nI c)) (by omega) rfl (fun c hc => ?_) ?_
    · show b_X10_usablePieces_5 τ n x (nI v) (nI r) (nI (usN ω v r c)) (nI c) G = _
      obtain ⟨e1, e2⟩ := lnN_e hI hc
      unfold b_X10_usablePieces_5
      rw [hC.rf.2.2.2.2.2.2.2.2.2.2.1, ka_bs, hC.vs.cn.1, hI.y0, if_neg (nI_ge hc (by omega)), if_neg (nI_nle (by omega) (by omega)), ka_bs, hC.fs.1.rf.1, ka_bs, hC.fs.1.y (i := c) (by omega), ka_chkT (nI_ne0 (by omega) (by omega)), (hC.vs.y hc).2.1, e1, div_v e2 hv hv2, gmin_nI (Nat.lt_of_le_of_lt (Nat.div_le_self _ _) (by omega)) (by omega), ka_letE, ka_letE, nI_add, nI_1]
      rfl
    · show b_X10_usablePieces_5 τ n x (nI v) (nI r) (nI (usN ω v r (cY ω))) (nI (cY ω)) G = _
      unfold b_X10_usablePieces_5
      rw [hC.rf.2.2.2.2.2.2.2.2.2.2.1, ka_bs, hC.vs.cn.1, hI.y0, if_pos (nI_le (Nat.le_refl _) (by omega))]
  unfold f_X10_usablePieces
  rw [e, ka_bs, ka_letE]
theorem m_canLay (hM : FM τ G m) (hω : ge G (m + 1) = ω) (hI : WI ω) (hn : 500 < n) {v r : Nat} (hv : 1 ≤ v) (hv2 : v ≤ 200) (hr : r < 2000) : f_X11_canLay τ n m (nI r) (nI v) G = some (if okL ω v r then 1 else 0) := by
  have hy := hI.y1
  have hb := usN_b hI (v := v) (r := r) (Nat.le_refl (cY ω))
  have e : l_X11_canLay_5 τ n m (nI r) (nI v) 0 0 G = some (nI (usN ω v r (cY ω))) := by
    unfold l_X11_canLay_5
    refine ka_up (cY ω) (fun c => (nI (usN ω v r c), nI c)) (by omega) rfl (fun c hc => ?_) ?_
    · show b_X11_canLay_5 τ n m (nI r) (nI v) (nI (usN ω v r c)) (nI c) G = _
      obtain ⟨e1, e2⟩ := lnN_e hI hc
      unfold b_X11_canLay_5
      rw [hM.cn.1, ka_bs, hω, hI.y0, if_neg (nI_ge hc (by omega)), hM.ofYarn (w := 1) c 1 rfl rfl (by omega), ka_bs, hω, ka_chkT (nI_ne0 (by omega) (by omega)), e1, div_v e2 hv hv2, gmin_c, gmin_nI (Nat.lt_of_le_of_lt (Nat.div_le_self _ _) (by omega)) (by omega), ka_letE, ka_letE, nI_add, nI_1]
      rfl
    · show b_X11_canLay_5 τ n m (nI r) (nI v) (nI (usN ω v r (cY ω))) (nI (cY ω)) G = _
      unfold b_X11_canLay_5
      rw [hM.cn.1, ka_bs, hω, hI.y0, if_pos (nI_le (Nat.le_refl _) (by omega))]
  unfold f_X11_canLay
  rw [e, ka_bs, ka_letE]
  unfold k_X11_canLay_36
  rw [show (3 : Int32) * nI r = nI (3 * r) from pk_mul 3 r]
  by_cases h : okL ω v r
  · rw [if_pos h, if_neg (nI_nlt h (by omega))]
  · rw [if_neg h, if_pos (nI_lt (Nat.lt_of_not_le h) (by omega))]
theorem c_lasts (hC : CV τ G x s t l l' ω im me ta fa) (hI : IV ω im me ta) (hn : 6000 < n) {v R : Nat} (h1 : ¬ (nI v < 1 ∨ 200 < nI v)) (hv : 1 ≤ v) (hv2 : v ≤ 200) (hR : okL ω v R) (hR2 : ¬ okL ω v (R + 1)) : gOk (f_X10_lasts τ n x (nI v) G) (fun q => q.1 = .inr (nI R) ∧ QC τ x t G q.2) := by
  have hy := hI.1.y1
  have hP := pcN_b hI.1 (v := v) (Nat.le_refl (cY ω))
  unfold f_X10_lasts
  rw [ka_bxr (c_withinO h1)]
  have e12 : l_X10_lasts_12 τ n x (nI v) 0 0 G = some (nI (pcN ω v (cY ω))) := by
    unfold l_X10_lasts_12
    refine ka_up (cY ω) (fun c => (nI (pcN ω v c), nI c)) (by omega) rfl (fun c hc => ?_) ?_
    · show b_X10_lasts_12 τ n x (nI v) (nI (pcN ω v c)) (nI c) G = _
      obtain ⟨e1, e2⟩ := lnN_e hI.1 hc
      unfold b_X10_lasts_12
      rw [hC.rf.2.2.2.2.2.2.2.2.2.2.1, ka_bs, hC.vs.cn.1, hI.1.y0, if_neg (nI_ge hc (by omega)), ka_bs, hC.fs.1.rf.1, ka_bs, hC.fs.1.y (i := c) (by omega), ka_chkT (nI_ne0 (by omega) (by omega)), (hC.vs.y hc).2.1, e1, div_v e2 hv hv2, ka_letE, ka_letE, nI_add, nI_1]
      rfl
    · show b_X10_lasts_12 τ n x (nI v) (nI (pcN ω v (cY ω))) (nI (cY ω)) G = _
      unfold b_X10_lasts_12
      rw [hC.rf.2.2.2.2.2.2.2.2.2.2.1, ka_bs, hC.vs.cn.1, hI.1.y0, if_pos (nI_le (Nat.le_refl _) (by omega))]
  rw [e12, ka_bs, ka_letE]
  unfold k_X10_lasts_46
  rw [show nI (pcN ω v (cY ω)) / (3 : Int32) = nI (pcN ω v (cY ω) / 3) from pk_div (d := 3) (by omega) (by decide) (by decide), ka_letE, ka_bind]
  generalize hp : pcN ω v (cY ω) / 3 = p
  have hp1 : ¬ okL ω v (p + 1) := fun h => by
    have h : 3 * (p + 1) ≤ usN ω v (p + 1) (cY ω) := h
    have := usN_p (ω := ω) (v := v) (r := p + 1) (c := cY ω)
    omega
  unfold l_X10_lasts_50
  refine gOk.mono (ka_loop p (fun c q => q = nI (p - c) ∧ ¬ okL ω v (p - c + 1)) (K := fun r => match r with | .inl _ => R = 0 | .inr z => z = nI R) (by omega) ⟨rfl, hp1⟩ (fun c q hc hq => ?_)) (fun r hr => ?_)
  · obtain ⟨rfl, hno⟩ := hq
    show gOk (b_X10_lasts_50 τ n x (nI v) (nI (p - c)) G) _
    unfold b_X10_lasts_50
    rcases Nat.eq_zero_or_pos (p - c) with h0 | h0
    · rw [h0] at hno ⊢
      rw [if_pos (show nI 0 ≤ 0 by decide)]
      exact ⟨_, rfl, okL_un hR hR2 (Nat.zero_le _) hno⟩
    · rw [if_neg (nI_nle h0 (by omega)), c_usable hC hI.1 (by omega) hv hv2 (by omega), ka_bs, show (3 : Int32) * nI (p - c) = nI (3 * (p - c)) from pk_mul 3 _]
      have hb := usN_b hI.1 (v := v) (r := p - c) (Nat.le_refl (cY ω))
      by_cases h : okL ω v (p - c)
      · rw [if_neg (nI_nlt h (by omega))]
        refine ⟨_, rfl, ?_⟩
        show nI (p - c) = nI R
        rw [okL_un hR hR2 h hno]
      · rw [if_pos (nI_lt (Nat.lt_of_not_le h) (by omega)), ka_letE]
        refine ⟨_, rfl, by omega, ?_, ?_⟩
        · show nI (p - c) + (-1) = nI (p - (c + 1))
          rw [show p - c = (p - (c + 1)) + 1 by omega, pk_m1]
        · rw [show p - (c + 1) + 1 = p - c by omega]
          exact h
  · cases r with
    | inl u =>
      have hr : R = 0 := hr
      show gOk (some ((Sum.inr (0 : Int32) : String ⊕ Int32), G)) _
      exact ⟨_, rfl, by rw [hr]; rfl, QC.rf⟩
    | inr z =>
      have hr : z = nI R := hr
      show gOk (gLet z fun z12 => some ((Sum.inr z12 : String ⊕ Int32), G)) _
      rw [ka_letE, hr]
      exact ⟨_, rfl, rfl, QC.rf⟩
theorem m_lasts (hM : FM τ G m) (hω : ge G (m + 1) = ω) (hI : WI ω) (hn : 6000 < n) {v R : Nat} (h1 : ¬ (nI v < 1 ∨ 200 < nI v)) (hv : 1 ≤ v) (hv2 : v ≤ 200) (hR : okL ω v R) (hR2 : ¬ okL ω v (R + 1)) : gOk (f_X11_lasts τ n m (nI v) G) (fun p => Th [x_IAE] (.inr (nI R)) p.1 (gi p.2 11 0 m) ∧ QM m G p.2) := by
  have hy := hI.y1
  have hM0 : FM τ (gsi G 11 0 m 0) m := QM.th.fm hM
  have w0 : ge (gsi G 11 0 m 0) (m + 1) = ω := hω
  unfold f_X11_lasts
  rw [ka_letE, m_in0, ka_bs, if_neg h1, if_neg ka_n10]
  unfold k_X11_lasts_22
  rw [ka_b2 m_thIf0, if_pos rfl, ka_bind]
  unfold l_X11_lasts_33
  refine gOk.mono (ka_loop 700 (fun c q => q = nI c ∧ okL ω v c) (K := fun r => r = nI R) (by omega) ⟨rfl, Nat.zero_le _⟩ (fun c q hc hq => ?_)) (fun r hr => by rw [ka_letE, hr]; exact ⟨_, rfl, ⟨th_set, rfl⟩, QM.th⟩)
  obtain ⟨rfl, hok⟩ := hq
  show gOk (b_X11_lasts_33 τ n m (nI v) (nI c) (gsi G 11 0 m 0)) _
  unfold b_X11_lasts_33
  rw [show nI c + (1 : Int32) = nI (c + 1) from nI_1 c, m_canLay hM0 w0 hI (by omega) hv hv2 (by omega), ka_bs]
  by_cases h : okL ω v (c + 1)
  · have hb := usN_b hI (v := v) (r := c + 1) (Nat.le_refl (cY ω))
    have h' : 3 * (c + 1) ≤ usN ω v (c + 1) (cY ω) := h
    rw [if_pos h, if_neg ka_n10, ka_letE]
    exact ⟨_, rfl, by omega, rfl, h⟩
  · rw [if_neg h, if_pos rfl]
    refine ⟨_, rfl, ?_⟩
    show nI c = nI R
    rw [okL_un hR hR2 hok h]
theorem op_lasts (hm : m = x + 512) (ho : o = m + 11) (hτ : gn τ o = 1) (hn : 6000 < n) (hC : CV τ G x s t l l' ω im me ta fa) (hM : MV τ G m ω im me ta fa) (hI : IV ω im me ta) (v : Int32) : gOk (f_L_lasts τ n x v o G) (fun q => gOk (f_X11_lasts τ n m v q.2) (fun p => q.1 = gi p.2 11 0 m ∧ (q.1 = 0 → gl p.2 o 0 = p.1.toInt64) ∧ ST τ x m p.2)) := by
  unfold f_L_lasts
  by_cases hv : v < 1 ∨ 200 < v
  · refine join_q (ans := .inl x_IAE) hm ho hτ (by decide) hC hM hI ⟨(.inl x_IAE, G), by unfold f_X10_lasts; exact ka_bxl (c_withinN hv), rfl, QC.rf⟩ (fun G1 hM1 => ?_)
    unfold f_X11_lasts
    rw [ka_letE, m_in0, ka_bs, if_pos hv, if_pos rfl]
    unfold k_X11_lasts_22
    rw [ka_b2 m_thIf1, if_neg ka_n10]
    refine ⟨_, rfl, ?_, QM.th.tr QM.th⟩
    show gCode [x_IAE] x_IAE 1 = some _
    rw [th_set]
    rfl
  · obtain ⟨w, hw1, hw2, rfl⟩ := bt_of (lo := 1) (hi := 200) (by decide) (by decide) hv
    obtain ⟨R, hR, hR2⟩ := okL_ex hI.1 w
    exact join_q (ans := .inr (nI R)) hm ho hτ (by decide) hC hM hI (c_lasts hC hI hn hv hw1 hw2 hR hR2) (fun G1 hM1 => m_lasts hM1.1 hM1.2.1 hI.1 hn hv hw1 hw2 hR hR2)
end
