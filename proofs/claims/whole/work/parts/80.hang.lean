/-! CALLS: hang -/
section
variable {τ : gτ} {n : Nat} {G G' : gG} {x m s t l l' o : Nat} {ω ω' : gW} {im : Option gW} {me : List gW} {ta : List Nat} {fa : Int32}
def hangW (ω : gW) (k : Nat) (v : Int32) : gW := rS ω k 9 v
theorem hangW.re {k : Nat} {v : Int32} : RE k ω (hangW ω k v) := RE.rf.rs (by decide)
theorem hangW.e {k j : Nat} {v : Int32} (hj : j < 10) : rv (hangW ω k v) k j = if j = 9 then v else rv ω k j := by
  unfold hangW
  by_cases h5 : j = 9
  · rw [if_pos h5, h5, rv_rS1 (by decide)]
  · rw [if_neg h5, rv_rS0 (by decide) hj h5]
theorem hangW.ok {k : Nat} {v : Int32} (hk : k < 8) (hK : ROK ω k) (hv : bt v 0 999) : ROK (hangW ω k v) k := by
  obtain ⟨-, -, ⟨c3, c4, c5, c6, c8, c9⟩, c7, c38⟩ := id hK
  refine rok_set hK (hangW.re.cs hk).1 (fun j hj => ?_) ?_ ?_ ?_ ?_ ?_ ?_ ?_ ?_
  · rw [hangW.e (by omega), if_neg (by omega)]
  · rw [hangW.e (by decide)]; exact c3
  · rw [hangW.e (by decide)]; exact c4
  · rw [hangW.e (by decide)]; exact c5
  · rw [hangW.e (by decide)]; exact c6
  · rw [hangW.e (by decide)]; exact c8
  · rw [hangW.e (by decide)]; exact hv
  · rw [hangW.e (by decide)]; exact c7
  · rw [hangW.e (by decide), hangW.e (by decide)]; exact c38
theorem c_hang (hC : CV τ G x s t l l' ω im me ta fa) (hI : IV ω im me ta) (hn : 500 < n) {k : Nat} {v : Int32} (hk : k < cR ω) (hv : ¬ (v < 0 ∨ 999 < v)) (h8 : rv ω k 8 = 0) : gOk (f_X10_hang τ n x (nI k) v G) (fun q => q.1 = .inr (rv ω k 9) ∧ CV τ q.2 x s t l l' (hangW ω k v) im (pushM me ω) ta fa ∧ Fr (fun b => x ≤ b ∧ b ≤ x + 511) G q.2) := by
  have hr := hI.1.r1
  have hsl := hC.sl
  have e0 := c_sound hC hI.1 hk
  rw [if_pos h8] at e0
  unfold f_X10_hang
  rw [ka_bxr (c_ropeOf hC hI.1 hk), hC.fs.1.kr (by omega), ka_bxr (c_withinO hv), ka_bxr e0, hC.fs.1.kr (by omega), hC.rf.2.2.2.1, ka_bs, hC.rf.2.2.2.2.2.2.2.2.2.2.1, ka_bs, ka_bind]
  refine gOk.mono (c_keep hC hI hn) fun G1 h1 => ?_
  obtain ⟨hC1, hf1⟩ := h1
  obtain ⟨r0, r1, r2, r3, r4, r5, r6, r7, r8, r9⟩ := (hC1.vs.r hk).f
  have hf2 : Fr (fun b => b = s + 16 + k) G1 (gsi G1 5 7 (s + 16 + k) v) := Fr.i rfl
  rw [ka_letE, ka_letE, r7]
  refine ⟨_, rfl, rfl, hC1.rope hI.push hk hangW.re hf2 ?_, (hf1.mono fun b hb => by omega).tr (hf2.mono fun b hb => by omega)⟩
  unfold RV
  simp only [hangW.e (show 0 < 10 by decide), hangW.e (show 1 < 10 by decide), hangW.e (show 2 < 10 by decide), hangW.e (show 3 < 10 by decide), hangW.e (show 4 < 10 by decide), hangW.e (show 5 < 10 by decide), hangW.e (show 6 < 10 by decide), hangW.e (show 7 < 10 by decide), hangW.e (show 8 < 10 by decide), hangW.e (show 9 < 10 by decide)]
  simp [ka_ii, r0, r1, r2, r3, r4, r5, r6, r8, r9]
theorem m_hang (hM : MV τ G m ω im me ta fa) (hI : IV ω im me ta) (hn : 6000 < n) {k : Nat} {v : Int32} (hk : k < cR ω) (hv : ¬ (v < 0 ∨ 999 < v)) (h8 : rv ω k 8 = 0) : gOk (f_X11_hang τ n m (nI k) v G) (fun p => Th [x_IOE, x_IAE, x_ISE] (.inr (rv ω k 9)) p.1 (gi p.2 11 0 m) ∧ (∃ ω2, WE (hangW ω k v) ω2 ∧ MV τ p.2 m ω2 im (pushM me ω) ta fa) ∧ Fr (fun b => m ≤ b ∧ b ≤ m + 10) G p.2) := by
  have hr := hI.1.r1
  have hM2 : MV τ (gsi G 11 0 m 0) m ω im me ta fa := hM.th0
  unfold f_X11_hang
  rw [ka_letE, (m_no hM2.1 hM2.2.1 hI.1 _).2.1, ka_bs, if_neg (no_k hk (by omega)), ka_b2 m_thIf0, if_pos rfl, m_in0, ka_bs, if_neg hv, if_neg ka_n10]
  unfold k_X11_hang_35
  rw [ka_b2 m_thIf0, if_pos rfl, m_isWhole hM2.1 (by omega), ka_bs, hM2.2.1, if_pos h8, if_neg ka_n10]
  unfold k_X11_hang_56
  rw [ka_b2 m_thIf0, if_pos rfl, ka_bind]
  refine gOk.mono (m_remembers hM2 hI.2.2.2.1.1 hn) fun G3 h3 => ?_
  obtain ⟨hM3, th3, hf3⟩ := h3
  obtain ⟨hM4, hf4⟩ := m_put2 hM3 (i := k) (j := 9) (v := v)
  rw [hM3.1.of (w := 9) k 9 rfl rfl (by omega), ka_bs, hM3.1.rf.1, ka_bs, m_at (w := 9) (j := 9) (by omega) rfl, ka_bs, hM3.1.w _ rfl (by omega), ka_letE, nI_clamp (by omega), hM3.2.1]
  refine ⟨_, rfl, ⟨?_, rfl⟩, ⟨hangW ω k v, WE.rf, hM4⟩, ?_⟩
  · rw [(hf4 m (by omega)).1, th3]
    exact th_set
  · have fth : Fr (fun b => m ≤ b ∧ b ≤ m + 10) G (gsi G 11 0 m 0) := Fr.i ⟨Nat.le_refl _, by omega⟩
    exact (fth.tr (hf3.mono fun b hb => by omega)).tr (hf4.mono fun b hb => by omega)
theorem op_hang (hm : m = x + 512) (ho : o = m + 11) (hτ : gn τ o = 1) (hn : 6000 < n) (hC : CV τ G x s t l l' ω im me ta fa) (hM : MV τ G m ω im me ta fa) (hI : IV ω im me ta) (y v : Int32) : gOk (f_L_hang τ n x y v o G) (fun q => gOk (f_X11_hang τ n m y v q.2) (fun p => q.1 = gi p.2 11 0 m ∧ (q.1 = 0 → gl p.2 o 0 = p.1.toInt64) ∧ ST τ x m p.2)) := by
  have hr := hI.1.r1
  unfold f_L_hang
  rcases arg_ix y (N := cR ω) (by omega) with ⟨k, hk, rfl⟩ | ⟨hno, -⟩
  · by_cases hv : v < 0 ∨ 999 < v
    · refine join_q (ans := .inl x_IAE) hm ho hτ (by decide) hC hM hI ⟨(.inl x_IAE, G), ?_, rfl, QC.rf⟩ (fun G1 hM1 => ?_)
      · unfold f_X10_hang
        rw [ka_bxr (c_ropeOf hC hI.1 hk), hC.fs.1.kr (by omega)]
        exact ka_bxl (c_withinN hv)
      · have hM2 : FM τ (gsi G1 11 0 m 0) m := QM.th.fm hM1.1
        have hω2 : ge (gsi G1 11 0 m 0) (m + 1) = ω := hM1.2.1
        unfold f_X11_hang
        rw [ka_letE, (m_no hM2 hω2 hI.1 _).2.1, ka_bs, if_neg (no_k hk (by omega)), ka_b2 m_thIf0, if_pos rfl, m_in0, ka_bs, if_pos hv, if_pos rfl]
        unfold k_X11_hang_35
        rw [ka_b2 m_thIf1, if_neg ka_n10]
        refine ⟨_, rfl, ?_, QM.th.tr QM.th⟩
        show gCode [x_IOE, x_IAE, x_ISE] x_IAE 1 = some _
        rw [th_set]
        rfl
    · by_cases h8 : rv ω k 8 = 0
      · have hb : bt v 0 999 := bt_of (by decide) (by decide) hv
        exact join_x (α := Int32) hm ho hτ (by decide) hM (hangW.re.iv hI.push hk (hangW.ok (by omega) (hI.1.r hk) hb)) (c_hang hC hI (by omega) hk hv h8) (fun G1 hM1 => m_hang hM1 hI hn hk hv h8)
      · have e0 := c_sound hC hI.1 hk
        rw [if_neg h8] at e0
        refine join_q (ans := .inl x_ISE) hm ho hτ (by decide) hC hM hI ⟨(.inl x_ISE, G), ?_, rfl, QC.rf⟩ (fun G1 hM1 => ?_)
        · unfold f_X10_hang
          rw [ka_bxr (c_ropeOf hC hI.1 hk), hC.fs.1.kr (by omega), ka_bxr (c_withinO hv)]
          exact ka_bxl e0
        · have hM2 : FM τ (gsi G1 11 0 m 0) m := QM.th.fm hM1.1
          have hω2 : ge (gsi G1 11 0 m 0) (m + 1) = ω := hM1.2.1
          unfold f_X11_hang
          rw [ka_letE, (m_no hM2 hω2 hI.1 _).2.1, ka_bs, if_neg (no_k hk (by omega)), ka_b2 m_thIf0, if_pos rfl, m_in0, ka_bs, if_neg hv, if_neg ka_n10]
          unfold k_X11_hang_35
          rw [ka_b2 m_thIf0, if_pos rfl, m_isWhole hM2 (by omega), ka_bs, hω2, if_neg h8, if_pos rfl]
          unfold k_X11_hang_56
          rw [ka_b2 m_thIf1, if_neg ka_n10]
          refine ⟨_, rfl, ?_, QM.th.tr QM.th⟩
          show gCode [x_IOE, x_IAE, x_ISE] x_ISE 1 = some _
          rw [th_set]
          rfl
  · refine join_q (ans := .inl x_IOE) hm ho hτ (by decide) hC hM hI ⟨_, (by unfold f_X10_hang; exact ka_bxl (c_ropeNo hC hI.1 hno)), rfl, QC.rf⟩ (fun G1 hM1 => ?_)
    have hM2 : FM τ (gsi G1 11 0 m 0) m := QM.th.fm hM1.1
    have hω2 : ge (gsi G1 11 0 m 0) (m + 1) = ω := hM1.2.1
    unfold f_X11_hang
    rw [ka_letE, (m_no hM2 hω2 hI.1 _).2.1, ka_bs, if_pos hno, ka_b2 m_thIf1, if_neg ka_n10]
    refine ⟨_, rfl, ?_, QM.th.tr QM.th⟩
    show gCode [x_IOE, x_IAE, x_ISE] x_IOE 1 = some _
    rw [th_set]
    rfl
end
