/-! CALLS: meet, both -/
section
variable {τ : gτ} {n : Nat} {G G' : gG} {x m s t l l' o : Nat} {ω ω' : gW} {im : Option gW} {me : List gW} {ta : List Nat} {fa : Int32}
theorem c_meetN (hC : CV τ G x s t l l' ω im me ta fa) (hI : IV ω im me ta) (hn : 500 < n) {q k : Nat} (hq : q < cO ω) (hk : k < cR ω) (h : ¬ cmS ω q k) : gOk (f_X10_meet τ n x (nI q) (nI k) G) (fun p => p.1 = .inl x_ISE ∧ QC τ x t G p.2) := by
  have hr := hI.1.r1
  have ho := hI.1.o1
  have hsl := hC.sl
  unfold f_X10_meet
  rw [ka_bxr (c_orderOf hC hI.1 hq), hC.fs.1.ko (by omega), ka_bxr (c_ropeOf hC hI.1 hk), hC.fs.1.kr (by omega), s_isFree (hC.vs.r hk), ka_bs]
  by_cases hf : rv ω k 8 = 0 ∧ rv ω k 9 = 0
  · rw [if_pos hf, if_neg ka_n10, hC.rf.2.2.2.2.2.2.2.2.2.2.1, ka_bs, hC.rf.2.2.2.2.2.2.2.2.2.2.2.2.1, ka_bs, ka_bind2]
    refine gOk.mono (s_bearing hC.fs.1 hC.vs hI.1 hC.fl.1 hC.lv hI.2.1 (hC.vs.r hk) (hI.1.r hk) (by omega) (by omega) hn) fun p hp => ?_
    obtain ⟨p1, p2⟩ := hp
    have q2 := QC.scr hC p2
    have hC2 := q2.cv hC hI
    rw [(hC.vs.r hk).f.2.2.2.1, s_isFilledBy (hC2.vs.ov hq), ka_bs, p1]
    by_cases h0 : beS ω k < ov ω q 0
    · rw [if_pos h0, if_pos rfl]
      exact ⟨_, rfl, rfl, q2⟩
    · by_cases h3 : rv ω k 3 < ov ω q 1
      · rw [if_neg h0, if_pos h3, if_pos rfl]
        exact ⟨_, rfl, rfl, q2⟩
      · exact absurd ⟨hf, h3, h0⟩ h
  · rw [if_neg hf, if_pos rfl]
    exact ⟨_, rfl, rfl, QC.rf⟩
theorem c_meet (hC : CV τ G x s t l l' ω im me ta fa) (hI : IV ω im me ta) (hn : 500 < n) {q k : Nat} (hq : q < cO ω) (hk : k < cR ω) (h : cmS ω q k) : gOk (f_X10_meet τ n x (nI q) (nI k) G) (fun p => p.1 = .inr (ov ω q 2) ∧ CV τ p.2 x s t l l' (meetW ω q k) im (pushM me ω) ta fa ∧ Fr (fun b => x ≤ b ∧ b ≤ x + 511) G p.2) := by
  have hr := hI.1.r1
  have ho := hI.1.o1
  have hyy := hI.1.y1
  have hsl := hC.sl
  obtain ⟨hf, h3, h0⟩ := id h
  unfold f_X10_meet
  rw [ka_bxr (c_orderOf hC hI.1 hq), hC.fs.1.ko (by omega), ka_bxr (c_ropeOf hC hI.1 hk), hC.fs.1.kr (by omega), s_isFree (hC.vs.r hk), ka_bs]
  rw [if_pos hf, if_neg ka_n10, hC.rf.2.2.2.2.2.2.2.2.2.2.1, ka_bs, hC.rf.2.2.2.2.2.2.2.2.2.2.2.2.1, ka_bs, ka_bind2]
  refine gOk.mono (s_bearing hC.fs.1 hC.vs hI.1 hC.fl.1 hC.lv hI.2.1 (hC.vs.r hk) (hI.1.r hk) (by omega) (by omega) hn) fun p hp => ?_
  obtain ⟨p1, p2⟩ := hp
  have q2 := QC.scr hC p2
  have hC2 := q2.cv hC hI
  rw [(hC.vs.r hk).f.2.2.2.1, s_isFilledBy (hC2.vs.ov hq), ka_bs, p1, if_neg h0, if_neg h3, if_neg ka_n10, hC2.rf.2.2.2.1, ka_bs, hC2.rf.2.2.2.2.2.2.2.2.2.2.1, ka_bs, ka_bind]
  refine gOk.mono (c_keep hC2 hI hn) fun G3 h3' => ?_
  obtain ⟨hC3, f3⟩ := h3'
  have hO := hC3.vs.ov hq
  obtain ⟨d0, d1, d2, d3, d4, d5, d6, d7, d8, d9, d10⟩ := hC3.vs.cn
  rw [ka_letE, ka_letE, hO.2.2, hO.1]
  generalize hG4 : gsi G3 5 7 (s + 16 + k) (ov ω q 0) = G4
  have r4 : gr G4 10 10 x = some s := by rw [← hG4]; exact hC3.rf.2.2.2.2.2.2.2.2.2.2.1
  rw [r4, ka_bs, ka_letE]
  generalize hG5 : gsi G4 6 12 s (gi G4 6 12 s + ov ω q 2) = G5
  have r5 : gr G5 10 10 x = some s := by rw [← hG5]; exact r4
  have f5 : Fr (fun b => b = s ∨ b = s + 16 + k) G3 G5 := by
    rw [← hG5, ← hG4]
    exact (Fr.i (A := fun b => b = s ∨ b = s + 16 + k) (Or.inr rfl)).tr (Fr.i (A := fun b => b = s ∨ b = s + 16 + k) (Or.inl rfl))
  have hF5 : FS τ G5 s := by rw [← hG5, ← hG4]; exact hC3.fs.1
  have hd5 : gi G5 6 4 s = ω 0 ∧ gi G5 6 5 s = ω 1 ∧ gi G5 6 6 s = ω 2 ∧ gi G5 6 7 s = ω 3 ∧ gi G5 6 8 s = ω 6 ∧ gi G5 6 9 s = ω 7 ∧ gi G5 6 10 s = ω 5 ∧ gi G5 6 11 s = ω 12 ∧ gi G5 6 12 s = ω 10 + ov ω q 2 ∧ gi G5 6 13 s = ω 8 ∧ gi G5 6 14 s = ω 9 := by
    rw [← hG5, ← hG4]
    simp only [ka_ii]
    simp [d0, d1, d2, d3, d4, d5, d6, d7, d8, d9, d10]
  have hRk : RV G5 (s + 16 + k) (meetW ω q k) k := by
    obtain ⟨r0, r1, r2, r3, r4', r5', r6, r7, r8, r9⟩ := (hC3.vs.r hk).f
    unfold RV
    rw [meetW.e (show k < 9 by omega) (show 0 < 10 by decide), meetW.e (show k < 9 by omega) (show 1 < 10 by decide), meetW.e (show k < 9 by omega) (show 2 < 10 by decide), meetW.e (show k < 9 by omega) (show 3 < 10 by decide), meetW.e (show k < 9 by omega) (show 4 < 10 by decide), meetW.e (show k < 9 by omega) (show 5 < 10 by decide), meetW.e (show k < 9 by omega) (show 6 < 10 by decide), meetW.e (show k < 9 by omega) (show 7 < 10 by decide), meetW.e (show k < 9 by omega) (show 8 < 10 by decide), meetW.e (show k < 9 by omega) (show 9 < 10 by decide)]
    rw [← hG5, ← hG4]
    simp [ka_ii, r0, r1, r2, r3, r4', r5', r6, r8, r9]
  rw [r5, ka_bs, ka_bind]
  unfold f_X6_removeOrder
  rw [ka_bind]
  refine gOk.mono (s_removeOrderL (ω := ω) hF5 (fun i hi => (hC3.vs.ov hi).same (f5 (s + 24 + i) (by omega)) (fun _ _ => rfl)) (hd5.2.2.1.trans hI.1.o0) ho hn hq) fun G6 h6 => ?_
  obtain ⟨e6, f6⟩ := h6
  have hh := (f6 s (by omega)).1
  unfold k_X6_removeOrder_39
  rw [ka_letE, ka_letE]
  refine ⟨_, rfl, ?_⟩
  have n6 : gi G6 6 6 s - 1 = nI (cO ω - 1) := by
    rw [hh, hd5.2.2.1, hI.1.o0]
    exact nI_sub (b := 1) (by omega)
  rw [n6]
  generalize hG7 : gsi G6 6 6 s (nI (cO ω - 1)) = G7
  have f7 : Fr (fun b => b = s) G6 G7 := by rw [← hG7]; exact Fr.i rfl
  have hF7 : FS τ G7 s := by
    have hF6 : FS τ G6 s := hF5.to f6 (fun b h1 h2 h3 => by omega)
    rw [← hG7]
    exact hF6
  have f : Fr (fun b => b = s ∨ b = s + 16 + k ∨ (s + 24 ≤ b ∧ b ≤ s + 31)) G3 G7 := ((f5.mono fun b hb => by rcases hb with h | h <;> omega).tr (f6.mono fun b hb => Or.inr (Or.inr hb))).tr (f7.mono fun b hb => Or.inl hb)
  have X : ∀ j, j ≠ 2 → j ≠ 10 → (j < 53 ∨ (133 ≤ j ∧ j < 143) ∨ 167 ≤ j) → meetW ω q k j = ω j := fun j h1 h2 h => meetW.xx (by omega) h1 h2 h
  have hd7 : gi G7 6 4 s = ω 0 ∧ gi G7 6 5 s = ω 1 ∧ gi G7 6 6 s = nI (cO ω - 1) ∧ gi G7 6 7 s = ω 3 ∧ gi G7 6 8 s = ω 6 ∧ gi G7 6 9 s = ω 7 ∧ gi G7 6 10 s = ω 5 ∧ gi G7 6 11 s = ω 12 ∧ gi G7 6 12 s = ω 10 + ov ω q 2 ∧ gi G7 6 13 s = ω 8 ∧ gi G7 6 14 s = ω 9 := by
    obtain ⟨a0, a1, a2, a3, a4, a5, a6, a7, a8, a9, a10⟩ := hd5
    rw [← hG7]
    simp only [ka_ii]
    simp [hh, a0, a1, a3, a4, a5, a6, a7, a8, a9, a10]
  obtain ⟨c1, c2⟩ := meetW.c (ω := ω) (q := q) (k := k) ho
  have hV7 : VS G7 s (meetW ω q k) := by
    refine vs_acts hI.1 hC3.vs ?_ (fun i hi => ?_) (fun i hi => ?_) (fun i hi => ?_) (X 11 (by decide) (by decide) (by decide)) (fun j h1 h2 => X j (by omega) (by omega) (by omega)) (f (s + 4) (by omega)) (f (s + 5) (by omega))
    · rw [X 0 (by decide) (by decide) (by decide), X 1 (by decide) (by decide) (by decide), c1, X 3 (by decide) (by decide) (by decide), X 6 (by decide) (by decide) (by decide), X 7 (by decide) (by decide) (by decide), X 5 (by decide) (by decide) (by decide), X 12 (by decide) (by decide) (by decide), X 8 (by decide) (by decide) (by decide), X 9 (by decide) (by decide) (by decide), show meetW ω q k 10 = ω 10 + ov ω q 2 from wSt_eq]
      exact hd7
    · have e : cY (meetW ω q k) = cY ω := by unfold cY; rw [X 0 (by decide) (by decide) (by decide)]
      rw [e] at hi
      exact (hC3.vs.yv hi).same (f (s + 6 + i) (by omega)) fun j hj => X _ (by omega) (by omega) (by omega)
    · have e : cR (meetW ω q k) = cR ω := by unfold cR; rw [X 1 (by decide) (by decide) (by decide)]
      rw [e] at hi
      by_cases hik : i = k
      · rw [hik]
        exact hRk.same (((f6 (s + 16 + k) (by omega))).tr (f7 (s + 16 + k) (by omega))) (fun _ _ => rfl)
      · exact (hC3.vs.r hi).same (f (s + 16 + i) (by omega)) fun j hj => by rw [meetW.e (by omega) hj, if_neg (fun h => hik h.1)]
    · rw [c2] at hi
      refine (e6 i (by omega)).same (f7 (s + 24 + i) (by omega)) fun j hj => ?_
      rw [meetW.oo (by omega) (by omega) hj]
      by_cases h : q ≤ i
      · rw [if_pos h, if_pos (by omega)]
      · rw [if_neg h, if_neg (by omega)]
  have fs7 : Fr (spn s) G3 G7 := f.mono fun b hb => by show s ≤ b ∧ b ≤ s + 31; rcases hb with h | h | h <;> omega
  refine ⟨_, rfl, rfl, hC3.world hI.push fs7 hF7 hV7 (X 4 (by decide) (by decide) (by decide)) (fun j hj => X j (by omega) (by omega) (by omega)), ?_⟩
  exact ((p2.mono fun b hb => by rcases hb with h | h <;> omega).tr (f3.mono fun b hb => by omega)).tr (fs7.mono fun b hb => by have hb : s ≤ b ∧ b ≤ s + 31 := hb; omega)
theorem m_meetP (hM : MV τ G m ω im me ta fa) (hI : WI ω) {q k : Nat} (hq : q < cO ω) (hk : k < cR ω) : f_X11_meet τ n m (nI q) (nI k) G = k_X11_meet_27 τ n m (nI q) (nI k) m 0 (gsi G 11 0 m 0) := by
  have hr := hI.r1
  have ho := hI.o1
  have hM2 : FM τ (gsi G 11 0 m 0) m := hM.th0.1
  have hω2 : ge (gsi G 11 0 m 0) (m + 1) = ω := hM.2.1
  unfold f_X11_meet
  rw [ka_letE, (m_no hM2 hω2 hI _).2.2, ka_bs, if_neg (no_k hq (by omega)), if_pos rfl, (m_no hM2 hω2 hI _).2.1, ka_bs, if_neg (no_k hk (by omega)), if_pos rfl]
theorem m_meet (hM : MV τ G m ω im me ta fa) (hI : IV ω im me ta) (hn : 6000 < n) {q k : Nat} (hq : q < cO ω) (hk : k < cR ω) (h : cmS ω q k) : gOk (f_X11_meet τ n m (nI q) (nI k) G) (fun p => Th [x_IOE, x_ISE] (.inr (ov ω q 2)) p.1 (gi p.2 11 0 m) ∧ (∃ ω2, WE (meetW ω q k) ω2 ∧ MV τ p.2 m ω2 im (pushM me ω) ta fa) ∧ Fr (fun b => m ≤ b ∧ b ≤ m + 10) G p.2) := by
  have hr := hI.1.r1
  have ho := hI.1.o1
  have hM2 : MV τ (gsi G 11 0 m 0) m ω im me ta fa := hM.th0
  rw [m_meetP hM hI.1 hq hk]
  unfold k_X11_meet_27
  rw [ka_b2 m_thIf0, if_pos rfl, ka_bind2]
  refine gOk.mono (m_canMeet hM2.1 hM2.2.1 hI.1 hI.2.1 (by omega) hq hk) fun p hp => ?_
  obtain ⟨p1, p2⟩ := hp
  have hM3 : MV τ p.2 m ω im me ta fa := by
    have h2 := (hM2.q (QM.v p2)).1
    have e : ge p.2 (m + 1) = ω := (p2 (m + 1) (by omega)).2.2.1.trans hM2.2.1
    rw [e] at h2
    exact h2
  have th3 : gi p.2 11 0 m = 0 := by rw [(p2 m (by omega)).1]; exact th_set
  rw [p1, if_pos h, if_neg ka_n10]
  unfold k_X11_meet_49
  rw [ka_b2 m_thIf0, if_pos rfl, ka_bind]
  refine gOk.mono (m_remembers hM3 hI.2.2.2.1.1 hn) fun G4 h4 => ?_
  obtain ⟨hM4, th4, hf4⟩ := h4
  obtain ⟨hM5, w5, hf5⟩ := m_wr hM4.1 hM4.2.1 (k := 53 + 10 * k + 9) (v := ov ω q 0)
  rw [hM4.1.ofOrder (w := 2) q 2 rfl rfl (by omega), ka_bs, hM4.2.1, m_g hM4.1, m_at (w := 9) (j := 9) (by omega) rfl, ka_bs, hM4.1.ofOrder (w := 0) q 0 rfl rfl (by omega), ka_bs, hM4.2.1, m_w hM4.1 _ rfl (by omega), ka_letE, show (143 : Int32) + 3 * nI q = nI (143 + 3 * q) by rw [show (143 : Int32) = nI 143 from rfl, show (3 : Int32) = nI 3 from rfl, pk_mul, nI_add], ka_bind]
  refine gOk.mono (m_meetL hM5 w5 (by omega) (k := q) (by omega)) fun G6 h6 => ?_
  obtain ⟨w6, hf6⟩ := h6
  have hM6 : FM τ G6 m := hf6.fm hM5 (by omega)
  have w6' : ge G6 (m + 1) = omW (rS ω k 9 (ov ω q 0)) q := w6
  obtain ⟨hM7, w7, hf7⟩ := m_wr hM6 w6' (k := 2) (v := nI (cO ω - 1))
  obtain ⟨hM8, w8, hf8⟩ := m_wr hM7 w7 (k := 10) (v := ω 10 + ov ω q 2)
  have e6 : ge G6 (m + 1) (Int32.toNatClampNeg 2) - 1 = nI (cO ω - 1) := by
    rw [w6', show Int32.toNatClampNeg 2 = 2 from rfl]
    show omW _ q 2 - 1 = _
    unfold omW
    rw [if_neg (by omega), rS_x (by decide) (by omega), hI.1.o0]
    exact nI_sub (b := 1) (by omega)
  have e7 : ge (gse G6 (m + 1) 2 (nI (cO ω - 1))) (m + 1) (Int32.toNatClampNeg 10) = ω 10 := by
    rw [w7, show Int32.toNatClampNeg 10 = 10 from rfl, wSt_ne (by decide)]
    unfold omW
    rw [if_neg (by omega), rS_x (by decide) (by omega)]
  unfold k_X11_meet_127
  rw [ka_letE, m_g hM6, m_w2 hM6 (x := 2) 2 rfl (by omega), e6, m_g hM7, m_w2 hM7 (x := 10) 10 rfl (by omega), e7]
  have hfA := ((hf5.tr hf6).tr hf7).tr hf8
  refine ⟨_, rfl, ⟨?_, rfl⟩, ⟨meetW ω q k, WE.rf, hM4.world hfA w8⟩, ?_⟩
  · rw [(hfA m (by omega)).1, th4]
    exact th3
  · have fth : Fr (fun b => m ≤ b ∧ b ≤ m + 10) G (gsi G 11 0 m 0) := Fr.i ⟨Nat.le_refl _, by omega⟩
    exact ((fth.tr (p2.mono fun b hb => by omega)).tr (hf4.mono fun b hb => by omega)).tr (hfA.mono fun b hb => by omega)
theorem op_meet (hm : m = x + 512) (ho : o = m + 11) (hτ : gn τ o = 1) (hn : 6000 < n) (hC : CV τ G x s t l l' ω im me ta fa) (hM : MV τ G m ω im me ta fa) (hI : IV ω im me ta) (y v : Int32) : gOk (f_L_meet τ n x y v o G) (fun q => gOk (f_X11_meet τ n m y v q.2) (fun p => q.1 = gi p.2 11 0 m ∧ (q.1 = 0 → gl p.2 o 0 = p.1.toInt64) ∧ ST τ x m p.2)) := by
  have hr := hI.1.r1
  have hoo := hI.1.o1
  unfold f_L_meet
  by_cases hno : (y < 0 ∨ nI (cO ω) ≤ y) ∨ (v < 0 ∨ nI (cR ω) ≤ v)
  · refine join_q (ans := .inl x_IOE) hm ho hτ (by decide) hC hM hI ⟨(.inl x_IOE, G), ?_, rfl, QC.rf⟩ (fun G1 hM1 => ?_)
    · unfold f_X10_meet
      rcases arg_ix y (N := cO ω) (by omega) with ⟨q, hq, rfl⟩ | ⟨hy, -⟩
      · rw [ka_bxr (c_orderOf hC hI.1 hq), hC.fs.1.ko (by omega)]
        exact ka_bxl (c_ropeNo hC hI.1 (hno.resolve_left (no_k hq (by omega))))
      · exact ka_bxl (c_orderNo hC hI.1 hy)
    · have hM2 : FM τ (gsi G1 11 0 m 0) m := QM.th.fm hM1.1
      have hω2 : ge (gsi G1 11 0 m 0) (m + 1) = ω := hM1.2.1
      have k27 : gOk (k_X11_meet_27 τ n m y v m 1 (gsi G1 11 0 m 0)) (fun p => Th [x_IOE, x_ISE] (.inl x_IOE) p.1 (gi p.2 11 0 m) ∧ QM m G1 p.2) := by
        unfold k_X11_meet_27
        rw [ka_b2 m_thIf1, if_neg ka_n10]
        refine ⟨_, rfl, ?_, QM.th.tr QM.th⟩
        show gCode [x_IOE, x_ISE] x_IOE 1 = some _
        rw [th_set]
        rfl
      unfold f_X11_meet k_X11_meet_22
      rw [ka_letE, (m_no hM2 hω2 hI.1 _).2.2, ka_bs]
      by_cases h1 : y < 0 ∨ nI (cO ω) ≤ y
      · rw [if_pos h1, if_neg ka_n10]; exact k27
      · rw [if_neg h1, if_pos rfl, (m_no hM2 hω2 hI.1 _).2.1, ka_bs, if_pos (hno.resolve_left h1), if_neg ka_n10]; exact k27
  · obtain ⟨q, hq, rfl⟩ := (arg_ix y (N := cO ω) (by omega)).resolve_right (fun h => hno (Or.inl h.1))
    obtain ⟨k, hk, rfl⟩ := (arg_ix v (N := cR ω) (by omega)).resolve_right (fun h => hno (Or.inr h.1))
    by_cases hc : cmS ω q k
    · exact join_x (α := Int32) hm ho hτ (by decide) hM (meetW.iv hI.push hq hk) (c_meet hC hI (by omega) hq hk hc) (fun G1 hM1 => m_meet hM1 hI hn hq hk hc)
    · refine join_q (ans := .inl x_ISE) hm ho hτ (by decide) hC hM hI (c_meetN hC hI (by omega) hq hk hc) (fun G1 hM1 => ?_)
      have hM2 : FM τ (gsi G1 11 0 m 0) m := QM.th.fm hM1.1
      have hω2 : ge (gsi G1 11 0 m 0) (m + 1) = ω := hM1.2.1
      rw [m_meetP hM1 hI.1 hq hk]
      unfold k_X11_meet_27
      rw [ka_b2 m_thIf0, if_pos rfl, ka_bind2]
      refine gOk.mono (m_canMeet hM2 hω2 hI.1 hI.2.1 (by omega) hq hk) fun p hp => ?_
      obtain ⟨p1, p2⟩ := hp
      rw [p1, if_neg hc, if_pos rfl]
      unfold k_X11_meet_49
      rw [ka_b2 m_thIf1, if_neg ka_n10]
      refine ⟨_, rfl, ?_, (QM.th.tr (QM.v p2)).tr QM.th⟩
      show gCode [x_IOE, x_ISE] x_ISE 1 = some _
      rw [th_set]
      rfl
end
