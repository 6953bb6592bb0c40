/-! CALLS: lay, the reference and both -/
section
variable {τ : gτ} {n : Nat} {G G' : gG} {x m s t l l' o : Nat} {ω ω' : gW} {im : Option gW} {me : List gW} {ta : List Nat} {fa : Int32}
theorem m_takes (hM : FM τ G m) (hω : ge G (m + 1) = ω) (hI : WI ω) (hn : 500 < n) {a b d : Nat} {v : Int32} (ha : a < cY ω) (hb : b < cY ω) (hd : d < cY ω) (h8 : cR ω < 8) : gOk (f_X11_takes τ n m (nI a) (nI b) (nI d) v G) (fun G' => ge G' (m + 1) = layW ω a b d v ∧ Fr (fun c => c = m + 1) G G') := by
  have hy := hI.y1
  have hlt := y3.lt (a := a) (b := b) (d := d) (by omega) (by omega) (by omega)
  unfold f_X11_takes
  rw [hM.cn.2.1, ka_bs, show ge G (m + 1) 1 = nI (cR ω) from (congrFun hω 1).trans hI.r0, ka_bind]
  refine gOk.mono (m_lays hM hω (by omega) (r := cR ω) (by omega) (a := nI a) (b := nI b) (c := nI d) (len := v)) fun G2 h2 => ?_
  obtain ⟨w2, f2⟩ := h2
  have hM2 : FM τ G2 m := f2.fm hM (by omega)
  rw [ka_bind]
  unfold l_X11_takes_16
  refine gOk.mono (ka_loop 3 (fun c q => q.1 = nI c ∧ ge q.2 (m + 1) = tkW (tr ω (cR ω) (nI a) (nI b) (nI d) v) (y3 a b d) v c ∧ Fr (fun b => b = m + 1) G2 q.2) (K := fun G' => ge G' (m + 1) = tkW (tr ω (cR ω) (nI a) (nI b) (nI d) v) (y3 a b d) v 3 ∧ Fr (fun b => b = m + 1) G2 G') (by omega) ⟨rfl, w2, Fr.rf⟩ (fun c q hc hq => ?_)) (fun G3 h3 => ?_)
  · obtain ⟨x5, G3⟩ := q
    obtain ⟨e1, e2, e3⟩ := hq
    have e1 : x5 = nI c := e1
    have e3 : Fr (fun b => b = m + 1) G2 G3 := e3
    have e2 : ge G3 (m + 1) = tkW (tr ω (cR ω) (nI a) (nI b) (nI d) v) (y3 a b d) v c := e2
    subst e1
    have hM3 : FM τ G3 m := e3.fm hM2 (by omega)
    show gOk (b_X11_takes_16 τ n m v (nI c) G3) _
    unfold b_X11_takes_16
    by_cases hlt3 : c < 3
    · have r1 : ge G3 (m + 1) 1 = nI (cR ω) := by rw [e2, tkW.xx hlt (by decide) hc, tr_x (by omega), hI.r0]
      have r2 : rv (ge G3 (m + 1)) (cR ω) c = nI (y3 a b d c) := by
        rw [e2]
        show tkW _ _ _ _ (53 + 10 * cR ω + c) = _
        rw [tkW.xx hlt (by omega) hc]
        obtain ⟨t0, t1, t2, -⟩ := tr_rv (ω := ω) (r := cR ω) (a := nI a) (b := nI b) (c := nI d) (len := v)
        match c, hlt3 with
        | 0, _ => exact t0
        | 1, _ => exact t1
        | 2, _ => exact t2
      have hq := hlt c hlt3
      obtain ⟨hM4, w4, f4⟩ := m_wr hM3 e2 (k := 13 + 4 * y3 a b d c + 1) (v := yv (tkW (tr ω (cR ω) (nI a) (nI b) (nI d) v) (y3 a b d) v c) (y3 a b d c) 1 - v)
      rw [if_neg (show ¬ (3 : Int32) ≤ nI c from nI_ge (b := 3) hlt3 (by decide)), m_g hM3, hM3.cn.2.1, ka_bs, r1, hM3.of (cR ω) c rfl rfl (by omega), ka_bs, r2, show f_X11_yarnAt (nI (y3 a b d c)) 1 = some (nI (13 + 4 * y3 a b d c + 1)) from yat_e _ 1, ka_bs, m_w2 hM3 _ rfl (by omega), nI_clamp (by omega), e2, ka_letE, nI_1]
      exact ⟨_, rfl, hlt3, rfl, w4, e3.tr f4⟩
    · have hcN : c = 3 := by omega
      subst hcN
      rw [if_pos (show (3 : Int32) ≤ nI 3 from nI_le (Nat.le_refl 3) (by decide))]
      exact ⟨_, rfl, e2, e3⟩
  · obtain ⟨w3, f3⟩ := h3
    have hM3 : FM τ G3 m := f3.fm hM2 (by omega)
    obtain ⟨hM4, w4, f4⟩ := m_wr hM3 w3 (k := 1) (v := nI (cR ω + 1))
    unfold k_X11_takes_52
    rw [ka_letE, m_g hM3, m_w2 hM3 (x := 1) 1 rfl (by omega)]
    have e : ge G3 (m + 1) (Int32.toNatClampNeg 1) + 1 = nI (cR ω + 1) := by
      rw [w3, show Int32.toNatClampNeg 1 = 1 from rfl, tkW.xx hlt (by decide) (Nat.le_refl 3), tr_x (by omega), hI.r0, nI_1]
    rw [e]
    exact ⟨_, rfl, w4, (f2.tr f3).tr f4⟩
theorem le_of_nlt {x y : Int32} (h : ¬ y < x) : x ≤ y := Int32.not_lt.mp h
theorem nle_of_lt {x y : Int32} (h : y < x) : ¬ x ≤ y := Int32.not_le.mpr h
theorem c_layR (hC : CV τ G x s t l l' ω im me ta fa) (hI : WI ω) {a b d : Nat} {v : Int32} (ha : a < cY ω) (hb : b < cY ω) (hd : d < cY ω) (h2 : ¬ (a = b ∨ a = d ∨ b = d)) (hv : ¬ (v < 1 ∨ 200 < v)) : f_X10_lay τ n x (nI a) (nI b) (nI d) v G = if v ≤ gmin (gmin (yv ω a 1) (yv ω b 1)) (yv ω d 1) then gBindX (f_X10_needRoomForRope x G) (fun _ G5 => (gr G5 10 3 x).bind fun a6 => (gr G5 10 10 x).bind fun a7 => (f_X3_keep τ n a6 a7 G5).bind fun G8 => (gr G8 10 10 x).bind fun a9 => gBind2 (f_X6_addRope τ a9 (nI a) (nI b) (nI d) v G8) fun v10 G11 => some (.inr v10, G11)) else some (.inl x_ISE, G) := by
  have e1 := c_need3 hC hI ha hb hd
  rw [if_neg h2] at e1
  unfold f_X10_lay
  rw [ka_bxr e1, ka_bxr (c_withinO hv), hC.rf.2.2.2.2.2.2.2.2.2.2.1, ka_bs, s_shortest hC.fs.1 hC.vs hI ha hb hd, ka_bs]
theorem c_lay (hC : CV τ G x s t l l' ω im me ta fa) (hI : IV ω im me ta) (hn : 500 < n) {a b d : Nat} {v : Int32} (ha : a < cY ω) (hb : b < cY ω) (hd : d < cY ω) (h2 : ¬ (a = b ∨ a = d ∨ b = d)) (hv : ¬ (v < 1 ∨ 200 < v)) (hle : ¬ (yv ω a 1 < v ∨ yv ω b 1 < v ∨ yv ω d 1 < v)) (h8 : cR ω < 8) : gOk (f_X10_lay τ n x (nI a) (nI b) (nI d) v G) (fun q => q.1 = .inr (nI (cR ω)) ∧ CV τ q.2 x s t l l' (layW ω a b d v) im (pushM me ω) ta fa ∧ Fr (fun b => x ≤ b ∧ b ≤ x + 511) G q.2) := by
  have hy := hI.1.y1
  have hsl := hC.sl
  have e1 := c_room hC hI.1
  rw [if_pos h8] at e1
  rw [c_layR hC hI.1 ha hb hd h2 hv, if_pos (le_of_nlt (fun h => hle ((gmin_lt _ _ _ _).mp h))), ka_bxr e1, hC.rf.2.2.2.1, ka_bs, hC.rf.2.2.2.2.2.2.2.2.2.2.1, ka_bs, ka_bind]
  refine gOk.mono (c_keep hC hI hn) fun G1 h1 => ?_
  obtain ⟨hC1, hf1⟩ := h1
  rw [hC1.rf.2.2.2.2.2.2.2.2.2.2.1, ka_bs, ka_bind2]
  refine gOk.mono (s_addRope hC1.fs.1 hC1.vs hI.1 ha hb hd (fun h => h2 (Or.inl h)) (fun h => h2 (Or.inr (Or.inl h))) (fun h => h2 (Or.inr (Or.inr h))) h8 (v := v)) fun q hq => ?_
  obtain ⟨q1, q2, q3, q4⟩ := hq
  refine ⟨_, rfl, congrArg Sum.inr q1, hC1.world hI.push q4 q3 q2 (layW.xx (by omega) (by omega) (by omega) h8 (by decide) (by decide)) (fun j hj => layW.xx (by omega) (by omega) (by omega) h8 (by omega) (by omega)), (hf1.mono fun b hb => by omega).tr (q4.mono fun b hb => by have hb : s ≤ b ∧ b ≤ s + 31 := hb; omega)⟩
theorem m_layP (hM : MV τ G m ω im me ta fa) (hI : WI ω) {a b d : Nat} {v : Int32} (ha : a < cY ω) (hb : b < cY ω) (hd : d < cY ω) : f_X11_lay τ n m (nI a) (nI b) (nI d) v G = k_X11_lay_35 τ n m (nI a) (nI b) (nI d) v m 0 (gsi G 11 0 m 0) := by
  have hy := hI.y1
  have hM2 : FM τ (gsi G 11 0 m 0) m := hM.th0.1
  have hω2 : ge (gsi G 11 0 m 0) (m + 1) = ω := hM.2.1
  unfold f_X11_lay
  rw [ka_letE, (m_no hM2 hω2 hI _).1, ka_bs, if_neg (no_k ha (by omega)), if_pos rfl, (m_no hM2 hω2 hI _).1, ka_bs, if_neg (no_k hb (by omega)), if_pos rfl, (m_no hM2 hω2 hI _).1, ka_bs, if_neg (no_k hd (by omega)), if_pos rfl]
theorem m_layQ (hM : MV τ G m ω im me ta fa) (hI : WI ω) {a b d : Nat} {v : Int32} (ha : a < cY ω) (hb : b < cY ω) (hd : d < cY ω) (h2 : ¬ (a = b ∨ a = d ∨ b = d)) (hv : ¬ (v < 1 ∨ 200 < v)) : f_X11_lay τ n m (nI a) (nI b) (nI d) v G = k_X11_lay_117 τ n m (nI a) (nI b) (nI d) v m (if yv ω a 1 < v ∨ yv ω b 1 < v ∨ yv ω d 1 < v then 1 else 0) (gsi G 11 0 m 0) := by
  have hy := hI.y1
  have hM2 : FM τ (gsi G 11 0 m 0) m := hM.th0.1
  have hω2 : ge (gsi G 11 0 m 0) (m + 1) = ω := hM.2.1
  rw [m_layP hM hI ha hb hd]
  unfold k_X11_lay_35 k_X11_lay_69
  rw [ka_b2 m_thIf0, if_pos rfl, m_two (by omega) (by omega) (by omega), ka_bs, if_neg h2, if_pos rfl, m_in0, ka_bs, if_neg hv, if_neg ka_n10, ka_b2 m_thIf0, if_pos rfl, hM2.ofYarn (w := 1) a 1 rfl rfl (by omega), ka_bs, hM2.ofYarn (w := 1) b 1 rfl rfl (by omega), ka_bs, hM2.ofYarn (w := 1) d 1 rfl rfl (by omega), ka_bs, ka_letE, hω2, ← gmin_a]
  by_cases hle : yv ω a 1 < v ∨ yv ω b 1 < v ∨ yv ω d 1 < v
  · rw [if_pos hle, if_neg (nle_of_lt ((gmin_lt _ _ _ _).mpr hle))]
  · rw [if_neg hle, if_pos (le_of_nlt (fun h => hle ((gmin_lt _ _ _ _).mp h)))]
theorem m_lay (hM : MV τ G m ω im me ta fa) (hI : IV ω im me ta) (hn : 6000 < n) {a b d : Nat} {v : Int32} (ha : a < cY ω) (hb : b < cY ω) (hd : d < cY ω) (h2 : ¬ (a = b ∨ a = d ∨ b = d)) (hv : ¬ (v < 1 ∨ 200 < v)) (hle : ¬ (yv ω a 1 < v ∨ yv ω b 1 < v ∨ yv ω d 1 < v)) (h8 : cR ω < 8) : gOk (f_X11_lay τ n m (nI a) (nI b) (nI d) v G) (fun p => Th [x_IOE, x_IAE, x_ISE, x_UOE] (.inr (nI (cR ω))) p.1 (gi p.2 11 0 m) ∧ (∃ ω2, WE (layW ω a b d v) ω2 ∧ MV τ p.2 m ω2 im (pushM me ω) ta fa) ∧ Fr (fun b => m ≤ b ∧ b ≤ m + 10) G p.2) := by
  have hM2 : MV τ (gsi G 11 0 m 0) m ω im me ta fa := hM.th0
  rw [m_layQ hM hI.1 ha hb hd h2 hv, if_neg hle]
  unfold k_X11_lay_117
  rw [ka_b2 m_thIf0, if_pos rfl, hM2.1.cn.2.1, ka_bs, m_full hM2.1 hM2.2.1 hI.1, if_pos h8]
  unfold k_X11_lay_139
  rw [ka_b2 m_thIf0, if_pos rfl, ka_bind]
  refine gOk.mono (m_remembers hM2 hI.2.2.2.1.1 hn) fun G3 h3 => ?_
  obtain ⟨hM3, th3, hf3⟩ := h3
  rw [ka_bind]
  refine gOk.mono (m_takes hM3.1 hM3.2.1 hI.1 (by omega) ha hb hd h8) fun G4 h4 => ?_
  obtain ⟨w4, hf4⟩ := h4
  have hM4 : FM τ G4 m := hf4.fm hM3.1 (by omega)
  rw [hM4.cn.2.1, ka_bs, w4]
  refine ⟨_, rfl, ⟨?_, ?_⟩, ⟨layW ω a b d v, WE.rf, hM3.world hf4 w4⟩, ?_⟩
  · rw [(hf4 m (by omega)).1, th3]
    exact th_set
  · show layW ω a b d v 1 - 1 = nI (cR ω)
    rw [show layW ω a b d v 1 = nI (cR ω + 1) from wSt_eq, nI_pred]
  · have fth : Fr (fun b => m ≤ b ∧ b ≤ m + 10) G (gsi G 11 0 m 0) := Fr.i ⟨Nat.le_refl _, by omega⟩
    exact (fth.tr (hf3.mono fun b hb => by omega)).tr (hf4.mono fun b hb => by omega)
theorem op_lay (hm : m = x + 512) (ho : o = m + 11) (hτ : gn τ o = 1) (hn : 6000 < n) (hC : CV τ G x s t l l' ω im me ta fa) (hM : MV τ G m ω im me ta fa) (hI : IV ω im me ta) (p q r v : Int32) : gOk (f_L_lay τ n x p q r v o G) (fun u => gOk (f_X11_lay τ n m p q r v u.2) (fun p => u.1 = gi p.2 11 0 m ∧ (u.1 = 0 → gl p.2 o 0 = p.1.toInt64) ∧ ST τ x m p.2)) := by
  have hy := hI.1.y1
  unfold f_L_lay
  by_cases hno : (p < 0 ∨ nI (cY ω) ≤ p) ∨ (q < 0 ∨ nI (cY ω) ≤ q) ∨ (r < 0 ∨ nI (cY ω) ≤ r)
  · refine join_q (ans := .inl x_IOE) hm ho hτ (by decide) hC hM hI ⟨_, (by unfold f_X10_lay; exact ka_bxl (c_need3N hC hI.1 hno)), rfl, QC.rf⟩ (fun G1 hM1 => ?_)
    have hM2 : FM τ (gsi G1 11 0 m 0) m := QM.th.fm hM1.1
    have hω2 : ge (gsi G1 11 0 m 0) (m + 1) = ω := hM1.2.1
    have k35 : gOk (k_X11_lay_35 τ n m p q r v m 1 (gsi G1 11 0 m 0)) (fun p => Th [x_IOE, x_IAE, x_ISE, x_UOE] (.inl x_IOE) p.1 (gi p.2 11 0 m) ∧ QM m G1 p.2) := by
      unfold k_X11_lay_35
      rw [ka_b2 m_thIf1, if_neg ka_n10]
      refine ⟨_, rfl, ?_, QM.th.tr QM.th⟩
      show gCode [x_IOE, x_IAE, x_ISE, x_UOE] x_IOE 1 = some _
      rw [th_set]
      rfl
    unfold f_X11_lay k_X11_lay_30
    rw [ka_letE, (m_no hM2 hω2 hI.1 _).1, ka_bs]
    by_cases h1 : p < 0 ∨ nI (cY ω) ≤ p
    · rw [if_pos h1, if_neg ka_n10]; exact k35
    · rw [if_neg h1, if_pos rfl, (m_no hM2 hω2 hI.1 _).1, ka_bs]
      by_cases h2 : q < 0 ∨ nI (cY ω) ≤ q
      · rw [if_pos h2, if_neg ka_n10]; exact k35
      · rw [if_neg h2, if_pos rfl, (m_no hM2 hω2 hI.1 _).1, ka_bs, if_pos ((hno.resolve_left h1).resolve_left h2), if_neg ka_n10]; exact k35
  · obtain ⟨a, ha, rfl⟩ := (arg_ix p (N := cY ω) (by omega)).resolve_right (fun h => hno (Or.inl h.1))
    obtain ⟨b, hb, rfl⟩ := (arg_ix q (N := cY ω) (by omega)).resolve_right (fun h => hno (Or.inr (Or.inl h.1)))
    obtain ⟨c, hc, rfl⟩ := (arg_ix r (N := cY ω) (by omega)).resolve_right (fun h => hno (Or.inr (Or.inr h.1)))
    by_cases hbad : (a = b ∨ a = c ∨ b = c) ∨ (v < 1 ∨ 200 < v)
    · refine join_q (ans := .inl x_IAE) hm ho hτ (by decide) hC hM hI ⟨(.inl x_IAE, G), ?_, rfl, QC.rf⟩ (fun G1 hM1 => ?_)
      · unfold f_X10_lay
        by_cases h2 : a = b ∨ a = c ∨ b = c
        · exact ka_bxl (by rw [c_need3 hC hI.1 ha hb hc, if_pos h2])
        · rw [ka_bxr (by rw [c_need3 hC hI.1 ha hb hc, if_neg h2])]
          exact ka_bxl (c_withinN (hbad.resolve_left h2))
      · rw [m_layP hM1 hI.1 ha hb hc]
        have k69 : gOk (k_X11_lay_69 τ n m (nI a) (nI b) (nI c) v m 1 (gsi G1 11 0 m 0)) (fun p => Th [x_IOE, x_IAE, x_ISE, x_UOE] (.inl x_IAE) p.1 (gi p.2 11 0 m) ∧ QM m G1 p.2) := by
          unfold k_X11_lay_69
          rw [ka_b2 m_thIf1, if_neg ka_n10]
          refine ⟨_, rfl, ?_, QM.th.tr QM.th⟩
          show gCode [x_IOE, x_IAE, x_ISE, x_UOE] x_IAE 1 = some _
          rw [th_set]
          rfl
        unfold k_X11_lay_35 k_X11_lay_64
        rw [ka_b2 m_thIf0, if_pos rfl, m_two (by omega) (by omega) (by omega), ka_bs]
        by_cases h2 : a = b ∨ a = c ∨ b = c
        · rw [if_pos h2, if_neg ka_n10]; exact k69
        · rw [if_neg h2, if_pos rfl, m_in0, ka_bs, if_pos (hbad.resolve_left h2), if_pos rfl]; exact k69
    · have h2 : ¬ (a = b ∨ a = c ∨ b = c) := fun h => hbad (Or.inl h)
      have hv : ¬ (v < 1 ∨ 200 < v) := fun h => hbad (Or.inr h)
      have hbt : bt v 1 200 := bt_of (lo := 1) (hi := 200) (by decide) (by decide) hv
      by_cases hle : yv ω a 1 < v ∨ yv ω b 1 < v ∨ yv ω c 1 < v
      · refine join_q (ans := .inl x_ISE) hm ho hτ (by decide) hC hM hI ⟨(.inl x_ISE, G), ?_, rfl, QC.rf⟩ (fun G1 hM1 => ?_)
        · rw [c_layR hC hI.1 ha hb hc h2 hv, if_neg (nle_of_lt ((gmin_lt _ _ _ _).mpr hle))]
        · rw [m_layQ hM1 hI.1 ha hb hc h2 hv, if_pos hle]
          unfold k_X11_lay_117
          rw [ka_b2 m_thIf1, if_neg ka_n10]
          refine ⟨_, rfl, ?_, QM.th.tr QM.th⟩
          show gCode [x_IOE, x_IAE, x_ISE, x_UOE] x_ISE 1 = some _
          rw [th_set]
          rfl
      · by_cases h8 : cR ω < 8
        · exact join_x (α := Int32) hm ho hτ (by decide) hM (layW.iv hI.push ha hb hc (fun h => h2 (Or.inl h)) (fun h => h2 (Or.inr (Or.inl h))) (fun h => h2 (Or.inr (Or.inr h))) h8 hbt hle) (c_lay hC hI (by omega) ha hb hc h2 hv hle h8) (fun G1 hM1 => m_lay hM1 hI hn ha hb hc h2 hv hle h8)
        · have e1 := c_room hC hI.1
          rw [if_neg h8] at e1
          refine join_q (ans := .inl x_UOE) hm ho hτ (by decide) hC hM hI ⟨(.inl x_UOE, G), ?_, rfl, QC.rf⟩ (fun G1 hM1 => ?_)
          · rw [c_layR hC hI.1 ha hb hc h2 hv, if_pos (le_of_nlt (fun h => hle ((gmin_lt _ _ _ _).mp h)))]
            exact ka_bxl e1
          · have hM2 : FM τ (gsi G1 11 0 m 0) m := QM.th.fm hM1.1
            have hω2 : ge (gsi G1 11 0 m 0) (m + 1) = ω := hM1.2.1
            rw [m_layQ hM1 hI.1 ha hb hc h2 hv, if_neg hle]
            unfold k_X11_lay_117
            rw [ka_b2 m_thIf0, if_pos rfl, hM2.cn.2.1, ka_bs, m_full hM2 hω2 hI.1, if_neg h8]
            unfold k_X11_lay_139
            rw [ka_b2 m_thIf1, if_neg ka_n10]
            refine ⟨_, rfl, ?_, QM.th.tr QM.th⟩
            show gCode [x_IOE, x_IAE, x_ISE, x_UOE] x_UOE 1 = some _
            rw [th_set]
            rfl
end
