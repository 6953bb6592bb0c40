/-! CALLS: span -/
section
variable {ω : gW}
theorem set8 {x : Int32} (h : ∀ j, 8 ≤ j → j < 32 → bb x j = false) : ∃ k, k < 256 ∧ x = nI k := by
  obtain ⟨k, hk, e⟩ := pk_andE x (m := 255) 8 (by decide +kernel)
  refine ⟨k, hk, ?_⟩
  rw [← e]
  refine b_ext fun i hi => ?_
  rw [b_and, b_255]
  by_cases h8 : i < 8
  · rw [decide_eq_true h8, Bool.and_true]
  · rw [decide_eq_false h8, Bool.and_false, h i (by omega) hi]
theorem bc8F : ∀ k : Fin 256, ∃ q : Fin 9, bcS (nI k.1) = nI q.1 := by decide +kernel
theorem bc8 {k : Nat} (hk : k < 256) : bt (bcS (nI k)) 0 8 := by
  obtain ⟨q, hq⟩ := bc8F ⟨k, hk⟩
  exact ⟨q.1, Nat.zero_le _, by omega, hq⟩
theorem brS_k (hI : WI ω) : ∃ k, k < 256 ∧ brS ω = nI k := by
  have hr := hI.r1
  refine set8 fun j h8 hj => ?_
  rw [brS_e, acc_bb hj (by omega), decide_eq_false (by omega), Bool.false_and]
theorem SW.sd (hI : WI ω) {v : Int32} : SW ω (wSt ω 12 v) := by
  refine ⟨wi_free (fun j _ _ _ h => wSt_ne h) hI, wSt_ne (by decide), fun j hj => wSt_ne (by omega), ?_, ?_, ?_⟩
  · unfold cY; rw [wSt_ne (by decide)]
  · unfold cR; rw [wSt_ne (by decide)]
  · unfold cO; rw [wSt_ne (by decide)]
def spS (ω : gW) (N c : Nat) : Int32 := bcS (brS (sesW (wSt ω 12 (nI c)) N))
theorem spS_bt (hI : WI ω) (hLI : LI ω) (N c : Nat) : bt (spS ω N c) 0 8 := by
  have h := SW.sd hI (v := nI c)
  obtain ⟨k, hk, e⟩ := brS_k (SW.ses h.1 (h.li hLI) (c := N)).1
  unfold spS
  rw [e]
  exact bc8 hk
def mnS (ω : gW) (N c : Nat) : Int32 := acc (fun i b => gmin b (spS ω N (i + 1))) 8 c
def mxS (ω : gW) (N c : Nat) : Int32 := acc (fun i b => gmax b (spS ω N (i + 1))) 0 c
theorem bt_gmin {x y : Int32} {N : Nat} (hN : N < 2 ^ 31) (hx : bt x 0 N) (hy : bt y 0 N) : bt (gmin x y) 0 N := by
  obtain ⟨a, -, a2, rfl⟩ := hx
  obtain ⟨b, -, b2, rfl⟩ := hy
  exact ⟨min a b, Nat.zero_le _, by omega, gmin_nI (by omega) (by omega)⟩
theorem gmax_nI {a b : Nat} (ha : a < 2 ^ 31) (hb : b < 2 ^ 31) : gmax (nI a) (nI b) = nI (max a b) := by
  refine Int32.toInt_inj.mp ?_
  rw [gmax_i, nI_toInt ha, nI_toInt hb, nI_toInt (by omega)]
  omega
theorem bt_gmax {x y : Int32} {N : Nat} (hN : N < 2 ^ 31) (hx : bt x 0 N) (hy : bt y 0 N) : bt (gmax x y) 0 N := by
  obtain ⟨a, -, a2, rfl⟩ := hx
  obtain ⟨b, -, b2, rfl⟩ := hy
  exact ⟨max a b, Nat.zero_le _, by omega, gmax_nI (by omega) (by omega)⟩
theorem mnS_bt (hI : WI ω) (hLI : LI ω) (N : Nat) : ∀ c, bt (mnS ω N c) 0 8
  | 0 => ⟨8, by decide, by decide, rfl⟩
  | c + 1 => bt_gmin (by decide) (mnS_bt hI hLI N c) (spS_bt hI hLI N (c + 1))
theorem mxS_bt (hI : WI ω) (hLI : LI ω) (N : Nat) : ∀ c, bt (mxS ω N c) 0 8
  | 0 => ⟨0, by decide, by decide, rfl⟩
  | c + 1 => bt_gmax (by decide) (mxS_bt hI hLI N c) (spS_bt hI hLI N (c + 1))
theorem mnS_1 (hI : WI ω) (hLI : LI ω) (N : Nat) : mnS ω N 1 = spS ω N 1 := by
  obtain ⟨a, -, a2, ha⟩ := spS_bt hI hLI N 1
  show gmin 8 (spS ω N 1) = _
  rw [ha, show gmin 8 (nI a) = nI (min 8 a) from gmin_nI (a := 8) (by decide) (by omega), show min 8 a = a by omega]
theorem mxS_1 (hI : WI ω) (hLI : LI ω) (N : Nat) : mxS ω N 1 = spS ω N 1 := by
  obtain ⟨a, -, a2, ha⟩ := spS_bt hI hLI N 1
  show gmax 0 (spS ω N 1) = _
  rw [ha, show gmax 0 (nI a) = nI (max 0 a) from gmax_nI (a := 0) (by decide) (by omega), show max 0 a = a by omega]
theorem bt_nn {x : Int32} {N : Nat} (hN : N < 2 ^ 31) (h : bt x 0 N) : (0 : Int32) ≤ x := by
  obtain ⟨a, -, a2, rfl⟩ := h
  exact nI_pos' (by omega)
def spanS (ω : gW) (N : Nat) (b : Int32) (c : Nat) : Int32 := if b = 0 then mnS ω N c else mxS ω N c
end
section
variable {τ : gτ} {n : Nat} {G G' G1 G2 : gG} {x m s t l l' o : Nat} {ω ω' : gW} {im : Option gW} {me : List gW} {ta : List Nat} {fa : Int32}
theorem s_seed (h : SV τ G s l ω) {v : Int32} : SV τ (gsi G 6 11 s v) s l (wSt ω 12 v) := by
  obtain ⟨hF, hV, hI, hL, hLV, hLI, hsl⟩ := id h
  obtain ⟨a0, a1, a2, a3, a4, a5, a6, a7, a8, a9, a10⟩ := hV.cn
  have e : ∀ j, j ≠ 12 → wSt ω 12 v j = ω j := fun j hj => if_neg hj
  have f1 : Fr (fun b => b = s) G (gsi G 6 11 s v) := Fr.i rfl
  have hV1 : VS (gsi G 6 11 s v) s (wSt ω 12 v) := by
    refine vs_head (e 0 (by decide)) (e 1 (by decide)) (e 2 (by decide)) (e 11 (by decide)) (fun j hj => e j (by omega)) hI hV f1 ?_
    rw [e 0 (by decide), e 1 (by decide), e 2 (by decide), e 3 (by decide), e 6 (by decide), e 7 (by decide), e 5 (by decide), e 10 (by decide), e 8 (by decide), e 9 (by decide)]
    simp [ka_ii, wSt, a0, a1, a2, a3, a4, a5, a6, a8, a9, a10]
  exact h.goes (f1.mono fun b hb => by omega) hF.head hV1 (SW.sd hI)
theorem c_span (hC : CV τ G x s t l l' ω im me ta fa) (hI : IV ω im me ta) (hn : 500 < n) {N : Nat} {b : Int32} (h1 : ¬ (nI N < 0 ∨ 40 < nI N)) (hN : N ≤ 40) : gOk (f_X10_span τ n x (nI N) b G) (fun q => q.1 = .inr (spanS ω N b 6) ∧ QC τ x t G q.2) := by
  unfold f_X10_span
  rw [ka_bxr (c_withinO h1), ka_bind]
  unfold l_X10_span_16
  refine gOk.mono (ka_loop 6 (fun c q => q.1 = mnS ω N c ∧ q.2.1 = mxS ω N c ∧ q.2.2.1 = nI (c + 1) ∧ QC τ x t G q.2.2.2) (K := fun r => r.1 = mnS ω N 6 ∧ r.2.1 = mxS ω N 6 ∧ QC τ x t G r.2.2) (by omega) ⟨rfl, rfl, rfl, QC.rf⟩ (fun c q hc hq => ?_)) (fun r hr => ?_)
  · obtain ⟨x3, x4, x5, G1⟩ := q
    obtain ⟨e1, e2, e3, q1⟩ := hq
    have e1 : x3 = mnS ω N c := e1
    have e2 : x4 = mxS ω N c := e2
    have e3 : x5 = nI (c + 1) := e3
    have q1 : QC τ x t G G1 := q1
    subst e1; subst e2; subst e3
    have hC1 := q1.cv hC hI
    show gOk (b_X10_span_16 τ n x (nI N) b (mnS ω N c) (mxS ω N c) (nI (c + 1)) G1) _
    unfold b_X10_span_16
    by_cases hlt : c < 6
    · rw [if_neg (show ¬ (6 : Int32) < nI (c + 1) from nI_nlt (a := 6) (by omega) (by decide)), hC1.rf.2.2.2.2.2.2.2.2.2.2.2.1, ka_bs, hC1.rf.2.2.2.2.2.2.2.2.2.2.1, ka_bs, ka_bind]
      refine gOk.mono (c_spare hC1 hI hn) fun G4 h4 => ?_
      obtain ⟨s4, q4⟩ := h4
      have hC4 := (q1.tr q4).cv hC hI
      have s6 := s_seed s4 (v := nI (c + 1))
      have f6 : Fr (sq t l) G4 (gsi G4 6 11 t (nI (c + 1))) := Fr.i (Or.inl ⟨Nat.le_refl _, by omega⟩)
      have q6 := (q1.tr q4).tr (QC.sv hC4 s6 f6)
      have hC6 := q6.cv hC hI
      rw [hC4.rf.2.2.2.2.2.2.2.2.2.2.2.1, ka_bs, ka_letE, hC6.rf.2.2.2.2.2.2.2.2.2.2.2.1, ka_bs, hC6.rf.2.2.2.2.2.2.2.2.2.2.2.2.1, ka_bs, ka_bind]
      refine gOk.mono (s_pass s6 hn (N := N) (by omega)) fun G9 h9 => ?_
      obtain ⟨s9, f9⟩ := h9
      have q9 := q6.tr (QC.sv hC6 s9 f9)
      have hC9 := q9.cv hC hI
      rw [hC9.rf.2.2.2.2.2.2.2.2.2.2.2.1, ka_bs, s_brokenRopes s9.1 s9.2.1 s9.2.2.1 (by omega), ka_bs, bcS_e, ka_bs, ka_letE, ka_letE, ka_letE, nI_1]
      exact ⟨_, rfl, hlt, rfl, rfl, rfl, q9⟩
    · have hcN : c = 6 := by omega
      have g1 : mnS ω N c = mnS ω N 6 := by rw [hcN]
      have g2 : mxS ω N c = mxS ω N 6 := by rw [hcN]
      rw [if_pos (show (6 : Int32) < nI (c + 1) from nI_lt (a := 6) (by omega) (by omega)), g1, g2]
      generalize mnS ω N 6 = z1
      generalize mxS ω N 6 = z2
      exact ⟨_, rfl, rfl, rfl, q1⟩
  · obtain ⟨r1, r2, r3⟩ := hr
    rw [ka_letE, ka_letE, ka_letE, r1, r2]
    unfold k_X10_span_89 spanS
    by_cases hb : b = 0
    · rw [if_pos hb, if_pos hb]; exact ⟨_, rfl, rfl, r3⟩
    · rw [if_neg hb, if_neg hb]; exact ⟨_, rfl, rfl, r3⟩
theorem m_spaL (hM : FM τ G m) (hω : ge G (m + 1) = ω) (hI : WI ω) (hLI : LI ω) (hn : 500 < n) {N : Nat} {b u v : Int32} (hN : N ≤ 50) : gOk (l_X11_span_58 τ n m (nI N) b u v 0 G) (fun G' => ge G' (m + 1) = sesW ω N ∧ Fr (mm m) G G') := by
  unfold l_X11_span_58
  refine ka_loop N (fun c q => q.1 = nI c ∧ ge q.2 (m + 1) = sesW ω c ∧ Fr (mm m) G q.2) (by omega) ⟨rfl, hω, Fr.rf⟩ (fun c q hc hq => ?_)
  obtain ⟨x3, G3⟩ := q
  obtain ⟨e1, h3, f3⟩ := hq
  have e1 : x3 = nI c := e1
  have f3 : Fr (mm m) G G3 := f3
  have h3 : ge G3 (m + 1) = sesW ω c := h3
  subst e1
  have hW := SW.ses hI hLI (c := c)
  show gOk (b_X11_span_58 τ n m (nI N) b u v (nI c) G3) _
  unfold b_X11_span_58
  by_cases hlt : c < N
  · rw [if_neg (nI_ge hlt (by omega)), ka_bind]
    refine gOk.mono (m_oneSeason (f3.fm hM (by omega)) h3 hW.1 (hW.li hLI) hn) fun G4 h4 => ?_
    rw [ka_letE, nI_1]
    exact ⟨_, rfl, hlt, rfl, h4.1, f3.tr h4.2⟩
  · have hcN : c = N := by omega
    rw [if_pos (nI_le (by omega) (by omega))]
    exact ⟨_, rfl, by rw [← hcN]; exact h3, f3⟩
theorem m_span (hM : MV τ G m ω im me ta fa) (hI : IV ω im me ta) (hn : 500 < n) {N : Nat} {b : Int32} (h1 : ¬ (nI N < 0 ∨ 40 < nI N)) (hN : N ≤ 40) : gOk (f_X11_span τ n m (nI N) b G) (fun p => Th [x_IAE] (.inr (spanS ω N b 6)) p.1 (gi p.2 11 0 m) ∧ QM m G p.2) := by
  have hM2 : MV τ (gsi G 11 0 m 0) m ω im me ta fa := hM.th0
  unfold f_X11_span
  rw [ka_letE, m_in0, ka_bs, if_neg h1, if_neg ka_n10]
  unfold k_X11_span_21
  rw [ka_b2 m_thIf0, if_pos rfl, ka_bind]
  refine gOk.mono (m_keepsAll hM2.1 hM2.2.1 hn) fun G3 h3 => ?_
  obtain ⟨e3, f3⟩ := h3
  have hM3 : FM τ G3 m := f3.fm hM2.1 (by omega)
  have w3 : ge G3 (m + 1) = ω := (f3 (m + 1) (by omega)).2.2.1.trans hM2.2.1
  have q3 : QT m (gsi G 11 0 m 0) G3 := ⟨⟨f3.mono fun b hb => by omega, fun c k _ => (f3 m (by omega)).1 c k, (f3 m (by omega)).2.1, by rw [w3, hM2.2.1]; exact WE.rf⟩, (f3 m (by omega)).1 11 0⟩
  rw [ka_bind]
  unfold l_X11_span_39
  refine gOk.mono (ka_loop 6 (fun c q => q.1 = (if c = 0 then -1 else spanS ω N b c) ∧ q.2.1 = nI (c + 1) ∧ ge q.2.2 (m + 1) = ω ∧ (∀ j, j < 467 → ge q.2.2 (m + 4) j = ω j) ∧ FM τ q.2.2 m ∧ QT m (gsi G 11 0 m 0) q.2.2) (K := fun r => r.1 = spanS ω N b 6 ∧ QT m (gsi G 11 0 m 0) r.2) (by omega) ⟨rfl, rfl, w3, e3, hM3, q3⟩ (fun c q hc hq => ?_)) (fun r hr => ?_)
  · obtain ⟨x3, x4, G4⟩ := q
    obtain ⟨b1, a2, w4, e4, hM4, q4⟩ := hq
    have a1 : x3 = (if c = 0 then -1 else spanS ω N b c) := b1
    clear b1
    have a2 : x4 = nI (c + 1) := a2
    have w4 : ge G4 (m + 1) = ω := w4
    have e4 : ∀ j, j < 467 → ge G4 (m + 4) j = ω j := e4
    have hM4 : FM τ G4 m := hM4
    have q4 : QT m (gsi G 11 0 m 0) G4 := q4
    subst a2
    show gOk (b_X11_span_39 τ n m (nI N) b x3 (nI (c + 1)) G4) _
    unfold b_X11_span_39
    by_cases hlt : c < 6
    · obtain ⟨hM5, w5, f5⟩ := m_wr hM4 w4 (k := 12) (v := nI (c + 1))
      have s5 := SW.sd hI.1 (v := nI (c + 1))
      rw [if_neg (show ¬ (6 : Int32) < nI (c + 1) from nI_nlt (a := 6) (by omega) (by decide)), m_g hM4, m_w hM4 (x := 12) 12 rfl (by decide), ka_bind]
      refine gOk.mono (m_spaL hM5 w5 s5.1 (s5.li hI.2.1) hn (N := N) (by omega)) fun G6 h6 => ?_
      obtain ⟨w6, f6⟩ := h6
      have hM6 : FM τ G6 m := f6.fm hM5 (by omega)
      have s6 := SW.ses s5.1 (s5.li hI.2.1) (c := N)
      rw [ka_letE]
      unfold k_X11_span_74
      rw [m_brokenOnes hM6 w6 s6.1 (by omega), ka_bs, bcS_e, ka_bs, ka_bind]
      have f46 : Fr (mm m) G4 G6 := (f5.mono fun b hb => Or.inl hb).tr f6
      refine gOk.mono (m_bringsBack hM6 hn) fun G7 h7 => ?_
      obtain ⟨e7, f7⟩ := h7
      have w7 : ge G7 (m + 1) = ω := by
        funext j
        rw [e7 j]
        by_cases hj : j < 467
        · rw [if_pos hj, (f46 (m + 4) (by omega)).2.2.1]; exact e4 j hj
        · rw [if_neg hj, w6]; exact (s5.tr s6).2.2.1 j (by omega)
      have hm7 := (f46 m (by omega)).tr (f7 m (by omega))
      have q7 : QT m (gsi G 11 0 m 0) G7 := q4.tr ⟨⟨(f46.mono fun b hb => by omega).tr (f7.mono fun b hb => by omega), fun c k _ => hm7.1 c k, hm7.2.1, by rw [w4, w7]; exact WE.rf⟩, hm7.1 11 0⟩
      have e7' : ∀ j, j < 467 → ge G7 (m + 4) j = ω j := fun j hj => by rw [((f46 (m + 4) (by omega)).tr (f7 (m + 4) (by omega))).2.2.1]; exact e4 j hj
      have hM7 : FM τ G7 m := f7.fm hM6 (by omega)
      have ev : bcS (brS (sesW (wSt ω 12 (nI (c + 1))) N)) = spS ω N (c + 1) := rfl
      rw [ev]
      by_cases hc0 : c = 0
      · subst hc0
        rw [if_pos rfl] at a1
        rw [a1, if_neg (by decide), ka_letE, nI_1]
        refine ⟨_, rfl, hlt, ?_, rfl, w7, e7', hM7, q7⟩
        rw [if_neg (by decide)]
        unfold spanS
        by_cases hb : b = 0
        · rw [if_pos hb]; exact (mnS_1 hI.1 hI.2.1 N).symm
        · rw [if_neg hb]; exact (mxS_1 hI.1 hI.2.1 N).symm
      · rw [if_neg hc0] at a1
        unfold spanS at a1
        by_cases hb : b = 0
        · rw [if_pos hb] at a1
          rw [a1, if_pos (bt_nn (by decide) (mnS_bt hI.1 hI.2.1 N c)), if_pos hb, ka_letE, ka_letE, nI_1]
          refine ⟨_, rfl, hlt, ?_, rfl, w7, e7', hM7, q7⟩
          unfold spanS
          rw [if_neg (by omega), if_pos hb]
          rfl
        · rw [if_neg hb] at a1
          rw [a1, if_pos (bt_nn (by decide) (mxS_bt hI.1 hI.2.1 N c)), if_neg hb, ka_letE, ka_letE, nI_1]
          refine ⟨_, rfl, hlt, ?_, rfl, w7, e7', hM7, q7⟩
          unfold spanS
          rw [if_neg (by omega), if_neg hb]
          rfl
    · have hcN : c = 6 := by omega
      rw [if_pos (show (6 : Int32) < nI (c + 1) from nI_lt (a := 6) (by omega) (by omega)), a1, if_neg (show ¬ c = 0 by omega), show spanS ω N b c = spanS ω N b 6 by rw [hcN]]
      generalize spanS ω N b 6 = z1
      exact ⟨_, rfl, rfl, q4⟩
  · obtain ⟨r1, r2⟩ := hr
    rw [ka_letE, ka_letE]
    exact ⟨_, rfl, ⟨r2.2.trans th_set, r1⟩, QM.th.tr r2.1⟩
theorem op_span (hm : m = x + 512) (ho : o = m + 11) (hτ : gn τ o = 1) (hn : 500 < n) (hC : CV τ G x s t l l' ω im me ta fa) (hM : MV τ G m ω im me ta fa) (hI : IV ω im me ta) (v b : Int32) : gOk (f_L_span τ n x v b o G) (fun q => gOk (f_X11_span τ n m v b q.2) (fun p => q.1 = gi p.2 11 0 m ∧ (q.1 = 0 → gl p.2 o 0 = p.1.toInt64) ∧ ST τ x m p.2)) := by
  unfold f_L_span
  by_cases hv : v < 0 ∨ 40 < v
  · refine join_q (ans := .inl x_IAE) hm ho hτ (by decide) hC hM hI ⟨(.inl x_IAE, G), by unfold f_X10_span; exact ka_bxl (c_withinN hv), rfl, QC.rf⟩ (fun G1 hM1 => ?_)
    unfold f_X11_span
    rw [ka_letE, m_in0, ka_bs, if_pos hv, if_pos rfl]
    unfold k_X11_span_21
    rw [ka_b2 m_thIf1, if_neg ka_n10]
    refine ⟨_, rfl, ?_, QM.th.tr QM.th⟩
    show gCode [x_IAE] x_IAE 1 = some _
    rw [th_set]
    rfl
  · obtain ⟨N, -, hN, rfl⟩ := bt_of (lo := 0) (hi := 40) (by decide) (by decide) hv
    exact join_q (ans := .inr (spanS ω N b 6)) hm ho hτ (by decide) hC hM hI (c_span hC hI hn hv hN) (fun G1 hM1 => m_span hM1 hI hn hv hN)
end
