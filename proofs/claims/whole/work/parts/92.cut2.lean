/-! CALLS: cut, the reference and both -/
section
variable {τ : gτ} {n : Nat} {G G' : gG} {x m s t l l' o : Nat} {ω ω' : gW} {im : Option gW} {me : List gW} {ta : List Nat} {fa : Int32}
theorem c_room (hC : CV τ G x s t l l' ω im me ta fa) (hI : WI ω) : f_X10_needRoomForRope x G = some (if cR ω < 8 then .inr () else .inl x_UOE, G) := by
  have hr := hI.r1
  obtain ⟨d0, d1, -⟩ := hC.vs.cn
  unfold f_X10_needRoomForRope
  rw [hC.rf.2.2.2.2.2.2.2.2.2.2.1, ka_bs, d1, hI.r0]
  by_cases h : cR ω < 8
  · rw [if_pos h, if_pos (show nI (cR ω) < 8 from nI_lt (b := 8) h (by decide))]
  · rw [if_neg h, if_neg (show ¬ nI (cR ω) < 8 from nI_nlt (b := 8) (by omega) (by omega))]
theorem m_full (hM : FM τ G m) (hω : ge G (m + 1) = ω) (hI : WI ω) {α : Type} {a b : α} : (if ge G (m + 1) 1 = (8 : Int32) then a else b) = if cR ω < 8 then b else a := by
  have hr := hI.r1
  rw [show ge G (m + 1) 1 = ω 1 from congrFun hω 1, hI.r0]
  by_cases h : cR ω < 8
  · rw [if_pos h, if_neg (fun e => by have := (nI_eq (a := cR ω) (b := 8) (by omega) (by decide)).mp e; omega)]
  · rw [if_neg h, if_pos (show nI (cR ω) = 8 by rw [show cR ω = 8 by omega]; rfl)]
theorem m_cutL (hM : FM τ G m) (hω : ge G (m + 1) = ω) (hn : 20 < n) {k r : Nat} (hk : k < 8) (hr : r < 8) (hkr : k ≠ r) {v : Int32} : gOk (l_X11_cut_104 τ n m (nI k) v (nI r) 0 G) (fun G' => ge G' (m + 1) = cpW ω k r ∧ Fr (fun b => b = m + 1) G G') := by
  unfold l_X11_cut_104
  refine gOk.mono (ka_loop 10 (fun c q => q.1 = nI c ∧ (∀ j, ge q.2 (m + 1) j = if 53 + 10 * r ≤ j ∧ j < 53 + 10 * r + c then ω (53 + 10 * k + (j - (53 + 10 * r))) else ω j) ∧ Fr (fun b => b = m + 1) G q.2) (K := fun G' => (∀ j, ge G' (m + 1) j = if 53 + 10 * r ≤ j ∧ j < 53 + 10 * r + 10 then ω (53 + 10 * k + (j - (53 + 10 * r))) else ω j) ∧ Fr (fun b => b = m + 1) G G') (by omega) ⟨rfl, fun j => by rw [if_neg (by omega)]; exact congrFun hω j, Fr.rf⟩ (fun c q hc hI => ?_)) (fun G1 hG => ⟨?_, hG.2⟩)
  · obtain ⟨x4, G1⟩ := q
    obtain ⟨e1, e2, e3⟩ := hI
    have e1 : x4 = nI c := e1
    have e3 : Fr (fun b => b = m + 1) G G1 := e3
    have e2 : ∀ j, ge G1 (m + 1) j = if 53 + 10 * r ≤ j ∧ j < 53 + 10 * r + c then ω (53 + 10 * k + (j - (53 + 10 * r))) else ω j := e2
    subst e1
    have hM1 : FM τ G1 m := e3.fm hM (by omega)
    show gOk (b_X11_cut_104 τ n m (nI k) v (nI r) (nI c) G1) _
    unfold b_X11_cut_104
    by_cases hlt : c < 10
    · rw [if_neg (show ¬ (10 : Int32) ≤ nI c from nI_ge (b := 10) hlt (by decide)), m_g hM1, at_e, ka_bs, hM1.of k c rfl rfl (by omega), ka_bs, m_w hM1 (53 + 10 * r + c) rfl (by omega), ka_letE, nI_1]
      refine ⟨_, rfl, hlt, rfl, fun j => ?_, e3.tr (Fr.e rfl)⟩
      show ge (gse G1 (m + 1) _ _) (m + 1) j = _
      rw [ka_ee, e2 j]
      by_cases hj : j = 53 + 10 * r + c
      · rw [if_pos ⟨rfl, hj⟩, if_pos (by omega)]
        unfold rv
        rw [e2, if_neg (by omega), hj, Nat.add_sub_cancel_left]
      · rw [if_neg (fun e => hj e.2)]
        by_cases h2 : 53 + 10 * r ≤ j ∧ j < 53 + 10 * r + c
        · rw [if_pos h2, if_pos (by omega)]
        · rw [if_neg h2, if_neg (by omega)]
    · have hcN : c = 10 := by omega
      subst hcN
      rw [if_pos (show (10 : Int32) ≤ nI 10 from nI_le (Nat.le_refl 10) (by decide))]
      exact ⟨_, rfl, e2, e3⟩
  · funext j
    rw [hG.1 j]
    unfold cpW
    by_cases h : 53 + 10 * r ≤ j ∧ j < 63 + 10 * r
    · rw [if_pos h, if_pos (by omega)]
    · rw [if_neg h, if_neg (by omega)]
theorem c_cut (hC : CV τ G x s t l l' ω im me ta fa) (hI : IV ω im me ta) (hn : 500 < n) {k : Nat} {v : Int32} (hk : k < cR ω) (h8 : cR ω < 8) (h80 : rv ω k 8 = 0) (hv : ¬ (v < 1 ∨ rv ω k 3 - 1 < v)) : gOk (f_X10_cut τ n x (nI k) v G) (fun q => q.1 = .inr (nI (cR ω)) ∧ CV τ q.2 x s t l l' (cutW ω k v) im (pushM me ω) ta fa ∧ Fr (fun b => x ≤ b ∧ b ≤ x + 511) G q.2) := by
  have hr := hI.1.r1
  have hsl := hC.sl
  have e0 := c_sound hC hI.1 hk
  rw [if_pos h80] at e0
  have e1 := c_room hC hI.1
  rw [if_pos h8] at e1
  unfold f_X10_cut
  rw [ka_bxr (c_ropeOf hC hI.1 hk), hC.fs.1.kr (by omega), (hC.vs.r hk).f.2.2.2.1, ka_bxr (c_withinO hv), ka_bxr e0, hC.fs.1.kr (by omega), ka_bxr e1, hC.rf.2.2.2.1, ka_bs, hC.rf.2.2.2.2.2.2.2.2.2.2.1, ka_bs, ka_bind]
  refine gOk.mono (c_keep hC hI hn) fun G1 h1 => ?_
  obtain ⟨hC1, hf1⟩ := h1
  rw [hC1.rf.2.2.2.2.2.2.2.2.2.2.1, ka_bs, ka_bind2]
  refine gOk.mono (s_addPiece hC1.fs.1 hC1.vs hI.1 hk h8 (v := v)) fun q hq => ?_
  obtain ⟨q1, q2, q3, q4⟩ := hq
  refine ⟨_, rfl, congrArg Sum.inr q1, hC1.world hI.push q4 q3 q2 (cutW.xx (by omega) h8 (by decide) (by decide)) (fun j hj => cutW.xx (by omega) h8 (by omega) (by omega)), (hf1.mono fun b hb => by omega).tr (q4.mono fun b hb => by have hb : s ≤ b ∧ b ≤ s + 31 := hb; omega)⟩
theorem m_cut (hM : MV τ G m ω im me ta fa) (hI : IV ω im me ta) (hn : 6000 < n) {k : Nat} {v : Int32} (hk : k < cR ω) (h8 : cR ω < 8) (h80 : rv ω k 8 = 0) (hv : ¬ (v < 1 ∨ rv ω k 3 - 1 < v)) : gOk (f_X11_cut τ n m (nI k) v G) (fun p => Th [x_IOE, x_IAE, x_ISE, x_UOE] (.inr (nI (cR ω))) p.1 (gi p.2 11 0 m) ∧ (∃ ω2, WE (cutW ω k v) ω2 ∧ MV τ p.2 m ω2 im (pushM me ω) ta fa) ∧ Fr (fun b => m ≤ b ∧ b ≤ m + 10) G p.2) := by
  have hr := hI.1.r1
  have hM2 : MV τ (gsi G 11 0 m 0) m ω im me ta fa := hM.th0
  unfold f_X11_cut
  rw [ka_letE, (m_no hM2.1 hM2.2.1 hI.1 _).2.1, ka_bs, if_neg (no_k hk (by omega)), ka_b2 m_thIf0, if_pos rfl, hM2.1.of (w := 3) k 3 rfl rfl (by omega), ka_bs, hM2.2.1, m_in0, ka_bs, if_neg hv, if_neg ka_n10]
  unfold k_X11_cut_40
  rw [ka_b2 m_thIf0, if_pos rfl, m_isWhole hM2.1 (by omega), ka_bs, hM2.2.1, if_pos h80, if_neg ka_n10]
  unfold k_X11_cut_61
  rw [ka_b2 m_thIf0, if_pos rfl, hM2.1.cn.2.1, ka_bs, m_full hM2.1 hM2.2.1 hI.1, if_pos h8]
  unfold k_X11_cut_83
  rw [ka_b2 m_thIf0, if_pos rfl, ka_bind]
  refine gOk.mono (m_remembers hM2 hI.2.2.2.1.1 hn) fun G3 h3 => ?_
  obtain ⟨hM3, th3, hf3⟩ := h3
  have c1 : ge G3 (m + 1) 1 = nI (cR ω) := (congrFun hM3.2.1 1).trans hI.1.r0
  rw [hM3.1.cn.2.1, ka_bs, c1, ka_bind]
  refine gOk.mono (m_cutL hM3.1 hM3.2.1 (by omega) (k := k) (r := cR ω) (by omega) h8 (by omega)) fun G4 h4 => ?_
  obtain ⟨w4, hf4⟩ := h4
  have hM4 : FM τ G4 m := hf4.fm hM3.1 (by omega)
  obtain ⟨hM5, w5, hf5⟩ := m_wr hM4 w4 (k := 53 + 10 * cR ω + 3) (v := v)
  obtain ⟨hM6, w6, hf6⟩ := m_wr hM5 w5 (k := 53 + 10 * cR ω + 6) (v := 0)
  obtain ⟨hM7, w7, hf7⟩ := m_wr hM6 w6 (k := 53 + 10 * cR ω + 9) (v := 0)
  obtain ⟨hM8, w8, hf8⟩ := m_wr hM7 w7 (k := 53 + 10 * k + 3) (v := rv ω k 3 - v)
  obtain ⟨hM9, w9, hf9⟩ := m_wr hM8 w8 (k := 1) (v := nI (cR ω + 1))
  unfold k_X11_cut_135
  rw [ka_letE, m_g hM4, m_at (w := 3) (j := 3) (by omega) rfl, ka_bs, m_w hM4 _ rfl (by omega), m_g hM5, m_at (w := 6) (j := 6) (by omega) rfl, ka_bs, m_w hM5 _ rfl (by omega), m_g hM6, m_at (w := 9) (j := 9) (by omega) rfl, ka_bs, m_w hM6 _ rfl (by omega), m_g hM7, m_at (w := 3) (j := 3) (by omega) rfl, ka_bs, m_w2 hM7 _ rfl (by omega), nI_clamp (show 53 + 10 * k + 3 < 2 ^ 31 by omega), w7]
  have e8 : (wSt (wSt (wSt (cpW ω k (cR ω)) (53 + 10 * cR ω + 3) v) (53 + 10 * cR ω + 6) 0) (53 + 10 * cR ω + 9) 0) (53 + 10 * k + 3) = rv ω k 3 := by
    rw [wSt_ne (by omega), wSt_ne (by omega), wSt_ne (by omega), cpW.xx (by omega)]
    rfl
  rw [e8, m_g hM8, m_w2 hM8 (x := 1) 1 rfl (by omega)]
  have e9 : ge (gse (gse (gse (gse G4 (m + 1) (53 + 10 * cR ω + 3) v) (m + 1) (53 + 10 * cR ω + 6) 0) (m + 1) (53 + 10 * cR ω + 9) 0) (m + 1) (53 + 10 * k + 3) (rv ω k 3 - v)) (m + 1) (Int32.toNatClampNeg 1) + 1 = nI (cR ω + 1) := by
    rw [w8, show Int32.toNatClampNeg 1 = 1 from rfl, wSt_ne (by omega), wSt_ne (by omega), wSt_ne (by omega), wSt_ne (by omega), cpW.xx (by omega), hI.1.r0, nI_1]
  rw [e9]
  have hM9' : MV τ (gse (gse (gse (gse (gse G4 (m + 1) (53 + 10 * cR ω + 3) v) (m + 1) (53 + 10 * cR ω + 6) 0) (m + 1) (53 + 10 * cR ω + 9) 0) (m + 1) (53 + 10 * k + 3) (rv ω k 3 - v)) (m + 1) 1 (nI (cR ω + 1))) m (cutW ω k v) im (pushM me ω) ta fa := hM3.world (((((hf4.tr hf5).tr hf6).tr hf7).tr hf8).tr hf9) w9
  have hfA := ((((hf4.tr hf5).tr hf6).tr hf7).tr hf8).tr hf9
  refine ⟨_, rfl, ⟨?_, rfl⟩, ⟨cutW ω k v, WE.rf, hM9'⟩, ?_⟩
  · rw [(hfA m (by omega)).1, th3]
    exact th_set
  · have fth : Fr (fun b => m ≤ b ∧ b ≤ m + 10) G (gsi G 11 0 m 0) := Fr.i ⟨Nat.le_refl _, by omega⟩
    exact (fth.tr (hf3.mono fun b hb => by omega)).tr (hfA.mono fun b hb => by omega)
theorem op_cut (hm : m = x + 512) (ho : o = m + 11) (hτ : gn τ o = 1) (hn : 6000 < n) (hC : CV τ G x s t l l' ω im me ta fa) (hM : MV τ G m ω im me ta fa) (hI : IV ω im me ta) (y v : Int32) : gOk (f_L_cut τ n x y v o G) (fun q => gOk (f_X11_cut τ n m y v q.2) (fun p => q.1 = gi p.2 11 0 m ∧ (q.1 = 0 → gl p.2 o 0 = p.1.toInt64) ∧ ST τ x m p.2)) := by
  have hr := hI.1.r1
  unfold f_L_cut
  rcases arg_ix y (N := cR ω) (by omega) with ⟨k, hk, rfl⟩ | ⟨hno, -⟩
  · by_cases hv : v < 1 ∨ rv ω k 3 - 1 < v
    · refine join_q (ans := .inl x_IAE) hm ho hτ (by decide) hC hM hI ⟨(.inl x_IAE, G), ?_, rfl, QC.rf⟩ (fun G1 hM1 => ?_)
      · unfold f_X10_cut
        rw [ka_bxr (c_ropeOf hC hI.1 hk), hC.fs.1.kr (by omega), (hC.vs.r hk).f.2.2.2.1]
        exact ka_bxl (c_withinN hv)
      · have hM2 : FM τ (gsi G1 11 0 m 0) m := QM.th.fm hM1.1
        have hω2 : ge (gsi G1 11 0 m 0) (m + 1) = ω := hM1.2.1
        unfold f_X11_cut
        rw [ka_letE, (m_no hM2 hω2 hI.1 _).2.1, ka_bs, if_neg (no_k hk (by omega)), ka_b2 m_thIf0, if_pos rfl, hM2.of (w := 3) k 3 rfl rfl (by omega), ka_bs, hω2, m_in0, ka_bs, if_pos hv, if_pos rfl]
        unfold k_X11_cut_40
        rw [ka_b2 m_thIf1, if_neg ka_n10]
        refine ⟨_, rfl, ?_, QM.th.tr QM.th⟩
        show gCode [x_IOE, x_IAE, x_ISE, x_UOE] x_IAE 1 = some _
        rw [th_set]
        rfl
    · by_cases h80 : rv ω k 8 = 0
      · by_cases h8 : cR ω < 8
        · exact join_x (α := Int32) hm ho hτ (by decide) hM (cutW.iv hI.push hk h8 h80 hv) (c_cut hC hI (by omega) hk h8 h80 hv) (fun G1 hM1 => m_cut hM1 hI hn hk h8 h80 hv)
        · have e0 := c_sound hC hI.1 hk
          rw [if_pos h80] at e0
          have e1 := c_room hC hI.1
          rw [if_neg h8] at e1
          refine join_q (ans := .inl x_UOE) hm ho hτ (by decide) hC hM hI ⟨(.inl x_UOE, G), ?_, rfl, QC.rf⟩ (fun G1 hM1 => ?_)
          · unfold f_X10_cut
            rw [ka_bxr (c_ropeOf hC hI.1 hk), hC.fs.1.kr (by omega), (hC.vs.r hk).f.2.2.2.1, ka_bxr (c_withinO hv), ka_bxr e0, hC.fs.1.kr (by omega)]
            exact ka_bxl e1
          · have hM2 : FM τ (gsi G1 11 0 m 0) m := QM.th.fm hM1.1
            have hω2 : ge (gsi G1 11 0 m 0) (m + 1) = ω := hM1.2.1
            unfold f_X11_cut
            rw [ka_letE, (m_no hM2 hω2 hI.1 _).2.1, ka_bs, if_neg (no_k hk (by omega)), ka_b2 m_thIf0, if_pos rfl, hM2.of (w := 3) k 3 rfl rfl (by omega), ka_bs, hω2, m_in0, ka_bs, if_neg hv, if_neg ka_n10]
            unfold k_X11_cut_40
            rw [ka_b2 m_thIf0, if_pos rfl, m_isWhole hM2 (by omega), ka_bs, hω2, if_pos h80, if_neg ka_n10]
            unfold k_X11_cut_61
            rw [ka_b2 m_thIf0, if_pos rfl, hM2.cn.2.1, ka_bs, m_full hM2 hω2 hI.1, if_neg h8]
            unfold k_X11_cut_83
            rw [ka_b2 m_thIf1, if_neg ka_n10]
            refine ⟨_, rfl, ?_, QM.th.tr QM.th⟩
            show gCode [x_IOE, x_IAE, x_ISE, x_UOE] x_UOE 1 = some _
            rw [th_set]
            rfl
      · have e0 := c_sound hC hI.1 hk
        rw [if_neg h80] at e0
        refine join_q (ans := .inl x_ISE) hm ho hτ (by decide) hC hM hI ⟨(.inl x_ISE, G), ?_, rfl, QC.rf⟩ (fun G1 hM1 => ?_)
        · unfold f_X10_cut
          rw [ka_bxr (c_ropeOf hC hI.1 hk), hC.fs.1.kr (by omega), (hC.vs.r hk).f.2.2.2.1, ka_bxr (c_withinO hv)]
          exact ka_bxl e0
        · have hM2 : FM τ (gsi G1 11 0 m 0) m := QM.th.fm hM1.1
          have hω2 : ge (gsi G1 11 0 m 0) (m + 1) = ω := hM1.2.1
          unfold f_X11_cut
          rw [ka_letE, (m_no hM2 hω2 hI.1 _).2.1, ka_bs, if_neg (no_k hk (by omega)), ka_b2 m_thIf0, if_pos rfl, hM2.of (w := 3) k 3 rfl rfl (by omega), ka_bs, hω2, m_in0, ka_bs, if_neg hv, if_neg ka_n10]
          unfold k_X11_cut_40
          rw [ka_b2 m_thIf0, if_pos rfl, m_isWhole hM2 (by omega), ka_bs, hω2, if_neg h80, if_pos rfl]
          unfold k_X11_cut_61
          rw [ka_b2 m_thIf1, if_neg ka_n10]
          refine ⟨_, rfl, ?_, QM.th.tr QM.th⟩
          show gCode [x_IOE, x_IAE, x_ISE, x_UOE] x_ISE 1 = some _
          rw [th_set]
          rfl
  · refine join_q (ans := .inl x_IOE) hm ho hτ (by decide) hC hM hI ⟨_, (by unfold f_X10_cut; exact ka_bxl (c_ropeNo hC hI.1 hno)), rfl, QC.rf⟩ (fun G1 hM1 => ?_)
    have hM2 : FM τ (gsi G1 11 0 m 0) m := QM.th.fm hM1.1
    have hω2 : ge (gsi G1 11 0 m 0) (m + 1) = ω := hM1.2.1
    unfold f_X11_cut
    rw [ka_letE, (m_no hM2 hω2 hI.1 _).2.1, ka_bs, if_pos hno, ka_b2 m_thIf1, if_neg ka_n10]
    refine ⟨_, rfl, ?_, QM.th.tr QM.th⟩
    show gCode [x_IOE, x_IAE, x_ISE, x_UOE] x_IOE 1 = some _
    rw [th_set]
    rfl
end
