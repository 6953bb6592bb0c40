/-! CALLS: twice -/
section
variable {τ : gτ} {n : Nat} {G G' : gG} {x m s t l l' o : Nat} {ω ω' : gW} {im : Option gW} {me : List gW} {ta : List Nat} {fa : Int32}
abbrev canD (ω : gW) (k : Nat) : Prop := rv ω k 8 = 0 ∧ ¬ (8 ≤ rv ω k 7) ∧ ¬ (rv ω k 3 < 2)
def dblW (ω : gW) (k : Nat) : gW := rS (rS ω k 7 (rv ω k 7 * 2)) k 3 (rv ω k 3 / 2)
theorem dblW.re {k : Nat} : RE k ω (dblW ω k) := (RE.rf.rs (by decide)).rs (by decide)
theorem dblW.e {k j : Nat} (hj : j < 10) : rv (dblW ω k) k j = if j = 3 then rv ω k 3 / 2 else if j = 7 then rv ω k 7 * 2 else rv ω k j := by
  unfold dblW
  by_cases h5 : j = 3
  · rw [if_pos h5, h5, rv_rS1 (by decide)]
  · rw [if_neg h5, rv_rS0 (by decide) hj h5]
    by_cases h4 : j = 7
    · rw [if_pos h4, h4, rv_rS1 (by decide)]
    · rw [if_neg h4, rv_rS0 (by decide) hj h4]
theorem half_k {a : Nat} (h : a ≤ 400) : nI a / 2 = nI (a / 2) := by
  have e : ∀ a : Fin 401, nI a.1 / 2 = nI (a.1 / 2) := by decide +kernel
  exact e ⟨a, by omega⟩
theorem dblW.ok {k : Nat} (hk : k < 8) (hK : ROK ω k) (hD : canD ω k) : ROK (dblW ω k) k := by
  obtain ⟨-, -, ⟨c3, c4, c5, c6, c8, c9⟩, c7, c38⟩ := id hK
  obtain ⟨h8, h7, h3⟩ := hD
  obtain ⟨a, -, ha, e3⟩ := c3
  have ha2 : 2 ≤ a := by
    rcases Nat.lt_or_ge a 2 with h | h
    · exact absurd (by rw [e3]; exact nI_lt (b := 2) h (by decide)) h3
    · exact h
  have b3 : bt (rv ω k 3 / 2) 1 400 := ⟨a / 2, by omega, by omega, by rw [e3, half_k ha]⟩
  refine rok_set hK (dblW.re.cs hk).1 (fun j hj => ?_) ?_ ?_ ?_ ?_ ?_ ?_ ?_ ?_
  · rw [dblW.e (by omega), if_neg (by omega), if_neg (by omega)]
  · rw [dblW.e (by decide)]; exact bt_w b3 (by decide) (by decide)
  · rw [dblW.e (by decide)]; exact c4
  · rw [dblW.e (by decide)]; exact c5
  · rw [dblW.e (by decide)]; exact c6
  · rw [dblW.e (by decide)]; exact c8
  · rw [dblW.e (by decide)]; exact c9
  · rw [dblW.e (by decide), if_neg (by decide), if_pos rfl]
    rcases c7 with h | h | h | h
    · rw [h]; exact Or.inr (Or.inl (by decide))
    · rw [h]; exact Or.inr (Or.inr (Or.inl (by decide)))
    · rw [h]; exact Or.inr (Or.inr (Or.inr (by decide)))
    · exact absurd (by rw [h]; decide) h7
  · rw [dblW.e (by decide), dblW.e (by decide)]; exact fun _ => b3
theorem c_canD {a k : Nat} (hR : RV G a ω k) : f_X5_canDouble a G = some (if canD ω k then 1 else 0) := by
  obtain ⟨r0, r1, r2, r3, r4, r5, r6, r7, r8, r9⟩ := hR.f
  unfold f_X5_canDouble
  rw [r9, r6, r3]
  by_cases h8 : rv ω k 8 = 0
  · rw [if_pos h8]
    by_cases h7 : 8 ≤ rv ω k 7
    · rw [if_pos h7, if_neg (fun h : canD ω k => h.2.1 h7)]
    · rw [if_neg h7]
      by_cases h3 : rv ω k 3 < 2
      · rw [if_pos h3, if_neg (fun h : canD ω k => h.2.2 h3)]
      · rw [if_neg h3, if_pos (show canD ω k from ⟨h8, h7, h3⟩)]
  · rw [if_neg h8, if_neg (fun h : canD ω k => h8 h.1)]
theorem m_canD (hM : FM τ G m) (hω : ge G (m + 1) = ω) {k : Nat} (hk : k < 9) : f_X11_canDouble τ m (nI k) G = some (if canD ω k then 1 else 0) := by
  unfold f_X11_canDouble
  rw [m_isWhole hM hk, ka_bs, hω]
  by_cases h8 : rv ω k 8 = 0
  · rw [if_pos h8, if_neg ka_n10, hM.of (w := 7) k 7 rfl rfl (by omega), ka_bs, hω]
    by_cases h7 : 8 ≤ rv ω k 7
    · rw [if_pos h7, if_neg (fun h : canD ω k => h.2.1 h7)]
    · rw [if_neg h7, hM.of (w := 3) k 3 rfl rfl (by omega), ka_bs, hω]
      by_cases h3 : rv ω k 3 < 2
      · rw [if_pos h3, if_neg (fun h : canD ω k => h.2.2 h3)]
      · rw [if_neg h3, if_pos (show canD ω k from ⟨h8, h7, h3⟩)]
  · rw [if_neg h8, if_pos rfl, if_neg (fun h : canD ω k => h8 h.1)]
theorem c_twice (hC : CV τ G x s t l l' ω im me ta fa) (hI : IV ω im me ta) (hn : 500 < n) {k : Nat} (hk : k < cR ω) (hD : canD ω k) : gOk (f_X10_twice τ n x (nI k) G) (fun q => q.1 = .inr (rv (dblW ω k) k 7) ∧ CV τ q.2 x s t l l' (dblW ω k) im (pushM me ω) ta fa ∧ Fr (fun b => x ≤ b ∧ b ≤ x + 511) G q.2) := by
  have hr := hI.1.r1
  have hsl := hC.sl
  unfold f_X10_twice
  rw [ka_bxr (c_ropeOf hC hI.1 hk), hC.fs.1.kr (by omega), c_canD (hC.vs.r hk), ka_bs, if_pos hD, if_neg ka_n10, hC.rf.2.2.2.1, ka_bs, hC.rf.2.2.2.2.2.2.2.2.2.2.1, ka_bs, ka_bind]
  refine gOk.mono (c_keep hC hI hn) fun G1 h1 => ?_
  obtain ⟨hC1, hf1⟩ := h1
  obtain ⟨r0, r1, r2, r3, r4, r5, r6, r7, r8, r9⟩ := (hC1.vs.r hk).f
  have fi : ∀ {G : gG} {c q : Nat} {v : Int32}, Fr (fun b => b = s + 16 + k) G (gsi G c q (s + 16 + k) v) := fun {G c q v} => Fr.i (A := fun b => b = s + 16 + k) rfl
  unfold f_X5_makeDouble
  have e5 : ∀ v, gi (gsi G1 5 6 (s + 16 + k) v) 5 3 (s + 16 + k) = rv ω k 3 := fun v => by rw [ka_ii, if_neg (fun h => absurd h.2.1 (by decide)), r3]
  rw [ka_letE, ka_letE, ka_bs, r6, e5]
  have hf2 : Fr (fun b => b = s + 16 + k) G1 (gsi (gsi G1 5 6 (s + 16 + k) (rv ω k 7 * 2)) 5 3 (s + 16 + k) (rv ω k 3 / 2)) := fi.tr fi
  refine ⟨_, rfl, ?_, hC1.rope hI.push hk dblW.re hf2 ?_, (hf1.mono fun b hb => by omega).tr (hf2.mono fun b hb => by omega)⟩
  · show (Sum.inr _ : String ⊕ Int32) = _
    rw [dblW.e (by decide)]
    simp [ka_ii]
  · unfold RV
    simp only [dblW.e (show 0 < 10 by decide), dblW.e (show 1 < 10 by decide), dblW.e (show 2 < 10 by decide), dblW.e (show 3 < 10 by decide), dblW.e (show 4 < 10 by decide), dblW.e (show 5 < 10 by decide), dblW.e (show 6 < 10 by decide), dblW.e (show 7 < 10 by decide), dblW.e (show 8 < 10 by decide), dblW.e (show 9 < 10 by decide)]
    simp [ka_ii, r0, r1, r2, r4, r5, r7, r8, r9]
theorem m_twice (hM : MV τ G m ω im me ta fa) (hI : IV ω im me ta) (hn : 6000 < n) {k : Nat} (hk : k < cR ω) (hD : canD ω k) : gOk (f_X11_twice τ n m (nI k) G) (fun p => Th [x_IOE, x_ISE] (.inr (rv (dblW ω k) k 7)) p.1 (gi p.2 11 0 m) ∧ (∃ ω2, WE (dblW ω k) ω2 ∧ MV τ p.2 m ω2 im (pushM me ω) ta fa) ∧ Fr (fun b => m ≤ b ∧ b ≤ m + 10) G p.2) := by
  have hr := hI.1.r1
  have hM2 : MV τ (gsi G 11 0 m 0) m ω im me ta fa := hM.th0
  unfold f_X11_twice
  rw [ka_letE, (m_no hM2.1 hM2.2.1 hI.1 _).2.1, ka_bs, if_neg (no_k hk (by omega)), ka_b2 m_thIf0, if_pos rfl, m_canD hM2.1 hM2.2.1 (by omega), ka_bs, if_pos hD, if_neg ka_n10]
  unfold k_X11_twice_32
  rw [ka_b2 m_thIf0, if_pos rfl, ka_bind]
  refine gOk.mono (m_remembers hM2 hI.2.2.2.1.1 hn) fun G3 h3 => ?_
  obtain ⟨hM3, th3, hf3⟩ := h3
  unfold f_X11_doubles
  obtain ⟨hM4, hf4⟩ := m_put2 hM3 (i := k) (j := 7) (v := rv ω k 7 * 2)
  obtain ⟨hM5, hf5⟩ := m_put2 hM4 (i := k) (j := 3) (v := rv ω k 3 / 2)
  have g3 : ge G3 (m + 1) (53 + 10 * k + 7) = rv ω k 7 := by rw [hM3.2.1]; rfl
  have g4 : ge (gse G3 (m + 1) (53 + 10 * k + 7) (rv ω k 7 * 2)) (m + 1) (53 + 10 * k + 3) = rv ω k 3 := by
    rw [hM4.2.1]
    exact rv_rS0 (i := k) (j := 7) (j' := 3) (by decide) (by decide) (by decide)
  rw [hM3.1.rf.1, ka_bs, m_at (w := 7) (j := 7) (by omega) rfl, ka_bs, hM3.1.w _ rfl (by omega), hM3.1.w _ rfl (by omega), ka_letE, nI_clamp (by omega), g3, hM4.1.rf.1, ka_bs, m_at (w := 3) (j := 3) (by omega) rfl, ka_bs, hM4.1.w _ rfl (by omega), hM4.1.w _ rfl (by omega), ka_letE, nI_clamp (by omega), g4, ka_bs, hM5.1.of (w := 7) k 7 rfl rfl (by omega), ka_bs, hM5.2.1]
  refine ⟨_, rfl, ⟨?_, rfl⟩, ⟨dblW ω k, WE.rf, hM5⟩, ?_⟩
  · rw [(hf5 m (by omega)).1, (hf4 m (by omega)).1, th3]
    exact th_set
  · have fth : Fr (fun b => m ≤ b ∧ b ≤ m + 10) G (gsi G 11 0 m 0) := Fr.i ⟨Nat.le_refl _, by omega⟩
    exact ((fth.tr (hf3.mono fun b hb => by omega)).tr (hf4.mono fun b hb => by omega)).tr (hf5.mono fun b hb => by omega)
theorem op_twice (hm : m = x + 512) (ho : o = m + 11) (hτ : gn τ o = 1) (hn : 6000 < n) (hC : CV τ G x s t l l' ω im me ta fa) (hM : MV τ G m ω im me ta fa) (hI : IV ω im me ta) (y : Int32) : gOk (f_L_twice τ n x y o G) (fun q => gOk (f_X11_twice τ n m y q.2) (fun p => q.1 = gi p.2 11 0 m ∧ (q.1 = 0 → gl p.2 o 0 = p.1.toInt64) ∧ ST τ x m p.2)) := by
  have hr := hI.1.r1
  unfold f_L_twice
  rcases arg_ix y (N := cR ω) (by omega) with ⟨k, hk, rfl⟩ | ⟨hno, -⟩
  · by_cases hD : canD ω k
    · exact join_x (α := Int32) hm ho hτ (by decide) hM (dblW.re.iv hI.push hk (dblW.ok (by omega) (hI.1.r hk) hD)) (c_twice hC hI (by omega) hk hD) (fun G1 hM1 => m_twice hM1 hI hn hk hD)
    · refine join_q (ans := .inl x_ISE) hm ho hτ (by decide) hC hM hI ⟨(.inl x_ISE, G), ?_, rfl, QC.rf⟩ (fun G1 hM1 => ?_)
      · unfold f_X10_twice
        rw [ka_bxr (c_ropeOf hC hI.1 hk), hC.fs.1.kr (by omega), c_canD (hC.vs.r hk), ka_bs, if_neg hD, if_pos rfl]
      · have hM2 : FM τ (gsi G1 11 0 m 0) m := QM.th.fm hM1.1
        have hω2 : ge (gsi G1 11 0 m 0) (m + 1) = ω := hM1.2.1
        unfold f_X11_twice
        rw [ka_letE, (m_no hM2 hω2 hI.1 _).2.1, ka_bs, if_neg (no_k hk (by omega)), ka_b2 m_thIf0, if_pos rfl, m_canD hM2 hω2 (by omega), ka_bs, if_neg hD, if_pos rfl]
        unfold k_X11_twice_32
        rw [ka_b2 m_thIf1, if_neg ka_n10]
        refine ⟨_, rfl, ?_, QM.th.tr QM.th⟩
        show gCode [x_IOE, x_ISE] x_ISE 1 = some _
        rw [th_set]
        rfl
  · refine join_q (ans := .inl x_IOE) hm ho hτ (by decide) hC hM hI ⟨_, (by unfold f_X10_twice; exact ka_bxl (c_ropeNo hC hI.1 hno)), rfl, QC.rf⟩ (fun G1 hM1 => ?_)
    have hM2 : FM τ (gsi G1 11 0 m 0) m := QM.th.fm hM1.1
    have hω2 : ge (gsi G1 11 0 m 0) (m + 1) = ω := hM1.2.1
    unfold f_X11_twice
    rw [ka_letE, (m_no hM2 hω2 hI.1 _).2.1, ka_bs, if_pos hno, ka_b2 m_thIf1, if_neg ka_n10]
    refine ⟨_, rfl, ?_, QM.th.tr QM.th⟩
    show gCode [x_IOE, x_ISE] x_IOE 1 = some _
    rw [th_set]
    rfl
end
