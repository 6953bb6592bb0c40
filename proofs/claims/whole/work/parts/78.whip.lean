/-! CALLS: whip, twice -/
section
variable {τ : gτ} {n : Nat} {G G' : gG} {x m s t l l' o : Nat} {ω ω' : gW} {im : Option gW} {me : List gW} {ta : List Nat} {fa : Int32}
def whipW (ω : gW) (k : Nat) : gW := rS ω k 6 1
theorem whipW.re {k : Nat} : RE k ω (whipW ω k) := RE.rf.rs (by decide)
theorem whipW.e {k j : Nat} (hj : j < 10) : rv (whipW ω k) k j = if j = 6 then 1 else rv ω k j := by
  unfold whipW
  by_cases h5 : j = 6
  · rw [if_pos h5, h5, rv_rS1 (by decide)]
  · rw [if_neg h5, rv_rS0 (by decide) hj h5]
theorem whipW.ok {k : Nat} (hk : k < 8) (hK : ROK ω k) : ROK (whipW ω k) k := by
  obtain ⟨-, -, ⟨c3, c4, c5, c6, c8, c9⟩, c7, c38⟩ := id hK
  refine rok_set hK (whipW.re.cs hk).1 (fun j hj => ?_) ?_ ?_ ?_ ?_ ?_ ?_ ?_ ?_
  · rw [whipW.e (by omega), if_neg (by omega)]
  · rw [whipW.e (by decide)]; exact c3
  · rw [whipW.e (by decide)]; exact c4
  · rw [whipW.e (by decide)]; exact c5
  · rw [whipW.e (by decide)]; exact ⟨1, by decide, by decide, rfl⟩
  · rw [whipW.e (by decide)]; exact c8
  · rw [whipW.e (by decide)]; exact c9
  · rw [whipW.e (by decide)]; exact c7
  · rw [whipW.e (by decide), whipW.e (by decide)]; exact c38
theorem c_whip (hC : CV τ G x s t l l' ω im me ta fa) (hI : IV ω im me ta) (hn : 500 < n) {k : Nat} (hk : k < cR ω) (h8 : rv ω k 8 = 0) : gOk (f_X10_whip τ n x (nI k) G) (fun q => q.1 = .inr (if rv ω k 6 = 0 then 1 else 0) ∧ CV τ q.2 x s t l l' (whipW ω k) im (pushM me ω) ta fa ∧ Fr (fun b => x ≤ b ∧ b ≤ x + 511) G q.2) := by
  have hr := hI.1.r1
  have hsl := hC.sl
  have e0 := c_sound hC hI.1 hk
  rw [if_pos h8] at e0
  unfold f_X10_whip
  rw [ka_bxr e0, hC.fs.1.kr (by omega), hC.rf.2.2.2.1, ka_bs, hC.rf.2.2.2.2.2.2.2.2.2.2.1, ka_bs, ka_bind]
  refine gOk.mono (c_keep hC hI hn) fun G1 h1 => ?_
  obtain ⟨hC1, hf1⟩ := h1
  obtain ⟨r0, r1, r2, r3, r4, r5, r6, r7, r8, r9⟩ := (hC1.vs.r hk).f
  have hf2 : Fr (fun b => b = s + 16 + k) G1 (gsi G1 5 8 (s + 16 + k) 1) := Fr.i rfl
  have key : ∀ v : Int32, (v = 0 ∨ v = 1) → gOk (k_X10_whip_29 τ n (s + 16 + k) v G1) (fun q => q.1 = .inr v ∧ CV τ q.2 x s t l l' (whipW ω k) im (pushM me ω) ta fa ∧ Fr (fun b => x ≤ b ∧ b ≤ x + 511) G q.2) := fun v hv => by
    unfold k_X10_whip_29
    rw [ka_letE, ka_chkT hv]
    refine ⟨_, rfl, rfl, hC1.rope hI.push hk whipW.re hf2 ?_, (hf1.mono fun b hb => by omega).tr (hf2.mono fun b hb => by omega)⟩
    unfold RV
    simp only [whipW.e (show 0 < 10 by decide), whipW.e (show 1 < 10 by decide), whipW.e (show 2 < 10 by decide), whipW.e (show 3 < 10 by decide), whipW.e (show 4 < 10 by decide), whipW.e (show 5 < 10 by decide), whipW.e (show 6 < 10 by decide), whipW.e (show 7 < 10 by decide), whipW.e (show 8 < 10 by decide), whipW.e (show 9 < 10 by decide)]
    simp [ka_ii, r0, r1, r2, r3, r4, r5, r6, r7, r9]
  rw [r8]
  by_cases h6 : rv ω k 6 = 0
  · rw [if_pos h6, if_pos h6]; exact key 1 (Or.inr rfl)
  · rw [if_neg h6, if_neg h6]; exact key 0 (Or.inl rfl)
theorem m_whip (hM : MV τ G m ω im me ta fa) (hI : IV ω im me ta) (hn : 6000 < n) {k : Nat} (hk : k < cR ω) (h8 : rv ω k 8 = 0) : gOk (f_X11_whip τ n m (nI k) G) (fun p => Th [x_IOE, x_ISE] (.inr (if rv ω k 6 = 0 then 1 else 0)) p.1 (gi p.2 11 0 m) ∧ (∃ ω2, WE (whipW ω k) ω2 ∧ MV τ p.2 m ω2 im (pushM me ω) ta fa) ∧ Fr (fun b => m ≤ b ∧ b ≤ m + 10) G p.2) := by
  have hr := hI.1.r1
  have hM2 : MV τ (gsi G 11 0 m 0) m ω im me ta fa := hM.th0
  unfold f_X11_whip
  rw [ka_letE, (m_no hM2.1 hM2.2.1 hI.1 _).2.1, ka_bs, if_neg (no_k hk (by omega)), ka_b2 m_thIf0, if_pos rfl, m_isWhole hM2.1 (by omega), ka_bs, hM2.2.1, if_pos h8, if_neg ka_n10]
  unfold k_X11_whip_32
  rw [ka_b2 m_thIf0, if_pos rfl, ka_bind]
  refine gOk.mono (m_remembers hM2 hI.2.2.2.1.1 hn) fun G3 h3 => ?_
  obtain ⟨hM3, th3, hf3⟩ := h3
  obtain ⟨hM4, hf4⟩ := m_put2 hM3 (i := k) (j := 6) (v := 1)
  rw [hM3.1.of (w := 6) k 6 rfl rfl (by omega), ka_bs, hM3.2.1]
  have fin : ∀ r : Int32, r = (if rv ω k 6 = 0 then 1 else 0) → gOk (some (r, gse G3 (m + 1) (53 + 10 * k + 6) 1)) (fun p => Th [x_IOE, x_ISE] (.inr (if rv ω k 6 = 0 then 1 else 0)) p.1 (gi p.2 11 0 m) ∧ (∃ ω2, WE (whipW ω k) ω2 ∧ MV τ p.2 m ω2 im (pushM me ω) ta fa) ∧ Fr (fun b => m ≤ b ∧ b ≤ m + 10) G p.2) := fun r hr => by
    refine ⟨_, rfl, ⟨?_, hr⟩, ⟨whipW ω k, WE.rf, hM4⟩, ?_⟩
    · rw [(hf4 m (by omega)).1, th3]
      exact th_set
    · have fth : Fr (fun b => m ≤ b ∧ b ≤ m + 10) G (gsi G 11 0 m 0) := Fr.i ⟨Nat.le_refl _, by omega⟩
      exact (fth.tr (hf3.mono fun b hb => by omega)).tr (hf4.mono fun b hb => by omega)
  have key : ∀ v : Int32, gOk (if v = 0 then some ((1 : Int32), gse G3 (m + 1) (53 + 10 * k + 6) 1) else some (0, gse G3 (m + 1) (53 + 10 * k + 6) 1)) (fun p => Th [x_IOE, x_ISE] (.inr (if rv ω k 6 = 0 then 1 else 0)) p.1 (gi p.2 11 0 m) ∧ (∃ ω2, WE (whipW ω k) ω2 ∧ MV τ p.2 m ω2 im (pushM me ω) ta fa) ∧ Fr (fun b => m ≤ b ∧ b ≤ m + 10) G p.2) → gOk (k_X11_whip_61 τ n m (nI k) v G3) (fun p => Th [x_IOE, x_ISE] (.inr (if rv ω k 6 = 0 then 1 else 0)) p.1 (gi p.2 11 0 m) ∧ (∃ ω2, WE (whipW ω k) ω2 ∧ MV τ p.2 m ω2 im (pushM me ω) ta fa) ∧ Fr (fun b => m ≤ b ∧ b ≤ m + 10) G p.2) := fun v h => by
    unfold k_X11_whip_61
    rw [hM3.1.rf.1, ka_bs, m_at (w := 6) (j := 6) (by omega) rfl, ka_bs, hM3.1.w _ rfl (by omega), ka_letE, nI_clamp (by omega)]
    exact h
  rcases bt01 (hI.1.r hk).2.2.1.2.2.2.1 with h6 | h6
  · rw [if_neg (by rw [h6]; exact ka_n01)]
    refine key 0 ?_
    rw [if_pos rfl]
    exact fin 1 (by rw [if_pos h6])
  · rw [if_pos h6]
    refine key 1 ?_
    rw [if_neg ka_n10]
    exact fin 0 (by rw [if_neg (by rw [h6]; exact ka_n10)])
theorem op_whip (hm : m = x + 512) (ho : o = m + 11) (hτ : gn τ o = 1) (hn : 6000 < n) (hC : CV τ G x s t l l' ω im me ta fa) (hM : MV τ G m ω im me ta fa) (hI : IV ω im me ta) (y : Int32) : gOk (f_L_whip τ n x y o G) (fun q => gOk (f_X11_whip τ n m y q.2) (fun p => q.1 = gi p.2 11 0 m ∧ (q.1 = 0 → gl p.2 o 0 = (if p.1 = 0 then (0 : Int64) else 1)) ∧ ST τ x m p.2)) := by
  have hr := hI.1.r1
  unfold f_L_whip
  rcases arg_ix y (N := cR ω) (by omega) with ⟨k, hk, rfl⟩ | ⟨hno, -⟩
  · by_cases h8 : rv ω k 8 = 0
    · exact join_x (α := Int32) (Kx := fun v => if v = 0 then (0 : Int64) else 1) hm ho hτ (by decide) hM (whipW.re.iv hI.push hk (whipW.ok (by omega) (hI.1.r hk))) (c_whip hC hI (by omega) hk h8) (fun G1 hM1 => m_whip hM1 hI hn hk h8)
    · have e0 := c_sound hC hI.1 hk
      rw [if_neg h8] at e0
      refine join_q (ans := .inl x_ISE) (Kx := fun v => if v = 0 then (0 : Int64) else 1) hm ho hτ (by decide) hC hM hI ⟨_, (by unfold f_X10_whip; exact ka_bxl e0), rfl, QC.rf⟩ (fun G1 hM1 => ?_)
      have hM2 : FM τ (gsi G1 11 0 m 0) m := QM.th.fm hM1.1
      have hω2 : ge (gsi G1 11 0 m 0) (m + 1) = ω := hM1.2.1
      unfold f_X11_whip
      rw [ka_letE, (m_no hM2 hω2 hI.1 _).2.1, ka_bs, if_neg (no_k hk (by omega)), ka_b2 m_thIf0, if_pos rfl, m_isWhole hM2 (by omega), ka_bs, hω2, if_neg h8, if_pos rfl]
      unfold k_X11_whip_32
      rw [ka_b2 m_thIf1, if_neg ka_n10]
      refine ⟨_, rfl, ?_, QM.th.tr QM.th⟩
      show gCode [x_IOE, x_ISE] x_ISE 1 = some _
      rw [th_set]
      rfl
  · refine join_q (ans := .inl x_IOE) (Kx := fun v => if v = 0 then (0 : Int64) else 1) hm ho hτ (by decide) hC hM hI ⟨_, (by unfold f_X10_whip; exact ka_bxl (c_soundNo hC hI.1 hno)), rfl, QC.rf⟩ (fun G1 hM1 => ?_)
    have hM2 : FM τ (gsi G1 11 0 m 0) m := QM.th.fm hM1.1
    have hω2 : ge (gsi G1 11 0 m 0) (m + 1) = ω := hM1.2.1
    unfold f_X11_whip
    rw [ka_letE, (m_no hM2 hω2 hI.1 _).2.1, ka_bs, if_pos hno, ka_b2 m_thIf1, if_neg ka_n10]
    refine ⟨_, rfl, ?_, QM.th.tr QM.th⟩
    show gCode [x_IOE, x_ISE] x_IOE 1 = some _
    rw [th_set]
    rfl
end
