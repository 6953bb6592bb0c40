/-! CALLS: trial -/
section
variable {τ : gτ} {n : Nat} {G G' G1 G2 : gG} {x m s t l l' o : Nat} {ω ω' : gW} {im : Option gW} {me : List gW} {ta : List Nat} {fa : Int32}
theorem m_t (hM : FM τ G m) {f : Nat → Option (gG)} : (gr G 11 4 m).bind f = f (m + 4) := by rw [hM.rf.2.2.2.1, ka_bs]
theorem m_keepsAll (hM : FM τ G m) (hω : ge G (m + 1) = ω) (hn : 500 < n) : gOk (f_X11_keepsAll τ n m G) (fun G' => (∀ j, j < 467 → ge G' (m + 4) j = ω j) ∧ Fr (fun b => b = m + 4) G G') := by
  unfold f_X11_keepsAll
  rw [ka_bind]
  unfold l_X11_keepsAll_2
  refine gOk.mono (ka_loop 467 (fun c q => q.1 = nI c ∧ (∀ j, j < c → ge q.2 (m + 4) j = ω j) ∧ Fr (fun b => b = m + 4) G q.2) (K := fun G' => (∀ j, j < 467 → ge G' (m + 4) j = ω j) ∧ Fr (fun b => b = m + 4) G G') (by omega) ⟨rfl, fun j hj => by omega, Fr.rf⟩ (fun c q hc hI => ?_)) (fun G1 hG => by rw [ka_letE]; exact ⟨_, rfl, hG⟩)
  obtain ⟨x1, G1⟩ := q
  obtain ⟨e1, e2, e3⟩ := hI
  have e1 : x1 = nI c := e1
  have e3 : Fr (fun b => b = m + 4) G G1 := e3
  have e2 : ∀ j, j < c → ge G1 (m + 4) j = ω j := e2
  subst e1
  have hM1 : FM τ G1 m := e3.fm hM (by omega)
  show gOk (b_X11_keepsAll_2 τ n m (nI c) G1) _
  unfold b_X11_keepsAll_2
  by_cases hlt : c < 467
  · rw [if_neg (show ¬ (467 : Int32) ≤ nI c from nI_ge (b := 467) hlt (by decide)), hM1.rf.2.2.2.1, ka_bs, m_g hM1, hM1.w c rfl (by omega), ka_chkT (show gIn (nI c) (gn τ (m + 4)) by rw [hM.2.2.2.2.1]; exact ka_in hlt (by decide)), ka_letE, ka_letE, nI_clamp (by omega), nI_1, show ge G1 (m + 1) c = ω c by rw [(e3 (m + 1) (by omega)).2.2.1, hω]]
    refine ⟨_, rfl, hlt, rfl, fun j hj => ?_, e3.tr (Fr.e rfl)⟩
    show ge (gse G1 (m + 4) c (ω c)) (m + 4) j = _
    rw [ka_ee]
    by_cases hjc : j = c
    · rw [if_pos ⟨rfl, hjc⟩, hjc]
    · rw [if_neg (fun h => hjc h.2)]
      exact e2 j (by omega)
  · have hcN : c = 467 := by omega
    subst hcN
    rw [if_pos (show (467 : Int32) ≤ nI 467 from nI_le (Nat.le_refl 467) (by decide))]
    exact ⟨_, rfl, e2, e3⟩
theorem m_bringsBack (hM : FM τ G m) (hn : 500 < n) : gOk (f_X11_bringsBack τ n m G) (fun G' => (∀ j, ge G' (m + 1) j = if j < 467 then ge G (m + 4) j else ge G (m + 1) j) ∧ Fr (fun b => b = m + 1) G G') := by
  unfold f_X11_bringsBack
  rw [ka_bind]
  unfold l_X11_bringsBack_2
  refine gOk.mono (ka_loop 467 (fun c q => q.1 = nI c ∧ (∀ j, ge q.2 (m + 1) j = if j < c then ge G (m + 4) j else ge G (m + 1) j) ∧ Fr (fun b => b = m + 1) G q.2) (K := fun G' => (∀ j, ge G' (m + 1) j = if j < 467 then ge G (m + 4) j else ge G (m + 1) j) ∧ Fr (fun b => b = m + 1) G G') (by omega) ⟨rfl, fun j => by rw [if_neg (by omega)], Fr.rf⟩ (fun c q hc hI => ?_)) (fun G1 hG => by rw [ka_letE]; exact ⟨_, rfl, hG⟩)
  obtain ⟨x1, G1⟩ := q
  obtain ⟨e1, e2, e3⟩ := hI
  have e1 : x1 = nI c := e1
  have e3 : Fr (fun b => b = m + 1) G G1 := e3
  have e2 : ∀ j, ge G1 (m + 1) j = if j < c then ge G (m + 4) j else ge G (m + 1) j := e2
  subst e1
  have hM1 : FM τ G1 m := e3.fm hM (by omega)
  show gOk (b_X11_bringsBack_2 τ n m (nI c) G1) _
  unfold b_X11_bringsBack_2
  by_cases hlt : c < 467
  · rw [if_neg (show ¬ (467 : Int32) ≤ nI c from nI_ge (b := 467) hlt (by decide)), m_g hM1, hM1.rf.2.2.2.1, ka_bs, ka_chkT (show gIn (nI c) (gn τ (m + 4)) by rw [hM.2.2.2.2.1]; exact ka_in hlt (by decide)), m_w hM1 c rfl (by omega), nI_clamp (by omega), ka_letE, nI_1, show ge G1 (m + 4) c = ge G (m + 4) c by rw [(e3 (m + 4) (by omega)).2.2.1]]
    refine ⟨_, rfl, hlt, rfl, fun j => ?_, e3.tr (Fr.e rfl)⟩
    show ge (gse G1 (m + 1) c (ge G (m + 4) c)) (m + 1) j = _
    rw [ka_ee, e2 j]
    by_cases hjc : j = c
    · rw [if_pos ⟨rfl, hjc⟩, hjc, if_pos (by omega)]
    · rw [if_neg (fun h => hjc h.2)]
      by_cases h2 : j < c
      · rw [if_pos h2, if_pos (by omega)]
      · rw [if_neg h2, if_neg (by omega)]
  · have hcN : c = 467 := by omega
    subst hcN
    rw [if_pos (show (467 : Int32) ≤ nI 467 from nI_le (Nat.le_refl 467) (by decide))]
    exact ⟨_, rfl, e2, e3⟩
/-- a question that went on in the world and brings it back -/
theorem m_home (hM : FM τ G m) (hω : ge G (m + 1) = ω) (hn : 500 < n) (h1 : ∀ j, j < 467 → ge G1 (m + 4) j = ω j) (f1 : Fr (fun b => b = m + 4) G G1) (f2 : Fr (mm m) G1 G2) (h2 : ∀ j, 467 ≤ j → ge G2 (m + 1) j = ω j) : gOk (f_X11_bringsBack τ n m G2) (fun G3 => ge G3 (m + 1) = ω ∧ QT m G G3) := by
  have hM2 : FM τ G2 m := f2.fm (f1.fm hM (by omega)) (by omega)
  refine gOk.mono (m_bringsBack hM2 hn) fun G3 h3 => ?_
  obtain ⟨e3, f3⟩ := h3
  have w3 : ge G3 (m + 1) = ω := by
    funext j
    rw [e3 j]
    by_cases hj : j < 467
    · rw [if_pos hj, (f2 (m + 4) (by omega)).2.2.1]; exact h1 j hj
    · rw [if_neg hj]; exact h2 j (by omega)
  have hm := ((f1 m (by omega)).tr (f2 m (by omega))).tr (f3 m (by omega))
  refine ⟨w3, ⟨((f1.mono fun b hb => by omega).tr (f2.mono fun b hb => by omega)).tr (f3.mono fun b hb => by omega), fun c k _ => hm.1 c k, hm.2.1, by rw [hω, w3]; exact WE.rf⟩, hm.1 11 0⟩
theorem c_spare (hC : CV τ G x s t l l' ω im me ta fa) (hI : IV ω im me ta) (hn : 500 < n) : gOk (f_X6_become τ n t s G) (fun G' => SV τ G' t l ω ∧ QC τ x t G G') := by
  have hsl := hC.sl
  refine gOk.mono (s_become hC.fs.2 hC.fs.1 hC.vs hI.1 (by omega) hn) fun G' h => ?_
  obtain ⟨h1, h2, h3⟩ := h
  have hq : QC τ x t G G' := ⟨h3.mono fun b hb => by have hb : t ≤ b ∧ b ≤ t + 31 := hb; unfold scC; omega, fun _ => h2⟩
  have hC' := hq.cv hC hI
  exact ⟨⟨h2, h1, hI.1, hC'.fl.1, hC'.lv, hI.2.1, by omega⟩, hq⟩
theorem QC.sv (hC : CV τ G x s t l l' ω im me ta fa) (h : SV τ G' t l ω') (hf : Fr (sq t l) G G') : QC τ x t G G' := by
  have hsl := hC.sl
  exact ⟨hf.mono fun b hb => by unfold scC; omega, fun _ => h.1⟩
def trS (ω : gW) (N : Nat) (b : Int32) : Int32 := if b = 0 then brS (sesW ω N) else sesW ω N 8 - ω 8
theorem c_trial (hC : CV τ G x s t l l' ω im me ta fa) (hI : IV ω im me ta) (hn : 500 < n) {N : Nat} {b : Int32} (h1 : ¬ (nI N < 0 ∨ 40 < nI N)) (hN : N ≤ 40) : gOk (f_X10_trial τ n x (nI N) b G) (fun q => q.1 = .inr (trS ω N b) ∧ QC τ x t G q.2) := by
  unfold f_X10_trial
  rw [ka_bxr (c_withinO h1), hC.rf.2.2.2.2.2.2.2.2.2.2.2.1, ka_bs, hC.rf.2.2.2.2.2.2.2.2.2.2.1, ka_bs, ka_bind]
  refine gOk.mono (c_spare hC hI hn) fun G4 h4 => ?_
  obtain ⟨s4, q4⟩ := h4
  have hC4 := q4.cv hC hI
  rw [hC4.rf.2.2.2.2.2.2.2.2.2.2.2.1, ka_bs, hC4.rf.2.2.2.2.2.2.2.2.2.2.2.2.1, ka_bs, ka_bind]
  refine gOk.mono (s_pass s4 hn (N := N) (by omega)) fun G7 h7 => ?_
  obtain ⟨s7, f7⟩ := h7
  have q7 := q4.tr (QC.sv hC4 s7 f7)
  have hC7 := q7.cv hC hI
  unfold trS
  by_cases hb : b = 0
  · rw [if_pos hb, if_pos hb, hC7.rf.2.2.2.2.2.2.2.2.2.2.2.1, ka_bs, s_brokenRopes s7.1 s7.2.1 s7.2.2.1 (by omega), ka_bs]
    exact ⟨_, rfl, rfl, q7⟩
  · rw [if_neg hb, if_neg hb, hC7.rf.2.2.2.2.2.2.2.2.2.2.2.1, ka_bs, hC7.rf.2.2.2.2.2.2.2.2.2.2.1, ka_bs, s7.2.1.cn.2.2.2.2.2.2.2.2.2.1, hC7.vs.cn.2.2.2.2.2.2.2.2.2.1]
    exact ⟨_, rfl, rfl, q7⟩
theorem m_triL (hM : FM τ G m) (hω : ge G (m + 1) = ω) (hI : WI ω) (hLI : LI ω) (hn : 500 < n) {N : Nat} {b : Int32} (hN : N ≤ 50) : gOk (l_X11_trial_36 τ n m (nI N) b 0 G) (fun G' => ge G' (m + 1) = sesW ω N ∧ Fr (mm m) G G') := by
  unfold l_X11_trial_36
  refine ka_loop N (fun c q => q.1 = nI c ∧ ge q.2 (m + 1) = sesW ω c ∧ Fr (mm m) G q.2) (by omega) ⟨rfl, hω, Fr.rf⟩ (fun c q hc hq => ?_)
  obtain ⟨x3, G3⟩ := q
  obtain ⟨e1, h3, f3⟩ := hq
  have e1 : x3 = nI c := e1
  have f3 : Fr (mm m) G G3 := f3
  have h3 : ge G3 (m + 1) = sesW ω c := h3
  subst e1
  have hW := SW.ses hI hLI (c := c)
  show gOk (b_X11_trial_36 τ n m (nI N) b (nI c) G3) _
  unfold b_X11_trial_36
  by_cases hlt : c < N
  · rw [if_neg (nI_ge hlt (by omega)), ka_bind]
    refine gOk.mono (m_oneSeason (f3.fm hM (by omega)) h3 hW.1 (hW.li hLI) hn) fun G4 h4 => ?_
    rw [ka_letE, nI_1]
    exact ⟨_, rfl, hlt, rfl, h4.1, f3.tr h4.2⟩
  · have hcN : c = N := by omega
    rw [if_pos (nI_le (by omega) (by omega))]
    exact ⟨_, rfl, by rw [← hcN]; exact h3, f3⟩
theorem m_trial (hM : MV τ G m ω im me ta fa) (hI : IV ω im me ta) (hn : 500 < n) {N : Nat} {b : Int32} (h1 : ¬ (nI N < 0 ∨ 40 < nI N)) (hN : N ≤ 40) : gOk (f_X11_trial τ n m (nI N) b G) (fun p => Th [x_IAE] (.inr (trS ω N b)) p.1 (gi p.2 11 0 m) ∧ QM m G p.2) := by
  have hM2 : MV τ (gsi G 11 0 m 0) m ω im me ta fa := hM.th0
  unfold f_X11_trial
  rw [ka_letE, m_in0, ka_bs, if_neg h1, if_neg ka_n10]
  unfold k_X11_trial_21
  rw [ka_b2 m_thIf0, if_pos rfl, ka_bind]
  refine gOk.mono (m_keepsAll hM2.1 hM2.2.1 hn) fun G3 h3 => ?_
  obtain ⟨e3, f3⟩ := h3
  have hM3 : FM τ G3 m := f3.fm hM2.1 (by omega)
  have w3 : ge G3 (m + 1) = ω := (f3 (m + 1) (by omega)).2.2.1.trans hM2.2.1
  rw [ka_bind]
  refine gOk.mono (m_triL hM3 w3 hI.1 hI.2.1 hn (N := N) (by omega)) fun G4 h4 => ?_
  obtain ⟨w4, f4⟩ := h4
  have hM4 : FM τ G4 m := f4.fm hM3 (by omega)
  have hW := SW.ses hI.1 hI.2.1 (c := N)
  have hend : ∀ v, v = trS ω N b → gOk (k_X11_trial_77 τ n m v G4) (fun p => Th [x_IAE] (.inr (trS ω N b)) p.1 (gi p.2 11 0 m) ∧ QM m G p.2) := fun v hv => by
    unfold k_X11_trial_77
    rw [ka_bind]
    refine gOk.mono (m_home hM2.1 hM2.2.1 hn e3 f3 f4 (fun j hj => by rw [w4]; exact hW.2.2.1 j hj)) fun G5 h5 => ?_
    exact ⟨_, rfl, ⟨h5.2.2.trans th_set, hv⟩, QM.th.tr h5.2.1⟩
  rw [ka_letE]
  unfold k_X11_trial_51
  unfold trS at hend ⊢
  by_cases hb : b = 0
  · rw [if_pos hb] at hend ⊢
    rw [if_pos hb, m_brokenOnes hM4 w4 hW.1 (by omega), ka_bs]
    exact hend _ rfl
  · rw [if_neg hb] at hend ⊢
    rw [if_neg hb, m_g hM4, hM4.w (x := 8) 8 rfl (by decide), hM4.rf.2.2.2.1, ka_bs, ka_chkT (show gIn (8 : Int32) (gn τ (m + 4)) by rw [hM.1.2.2.2.2.1]; exact ka_in (i := 8) (by decide) (by decide)), w4, (f4 (m + 4) (by omega)).2.2.1, show Int32.toNatClampNeg 8 = 8 from rfl, e3 8 (by decide)]
    exact hend _ rfl
theorem op_trial (hm : m = x + 512) (ho : o = m + 11) (hτ : gn τ o = 1) (hn : 500 < n) (hC : CV τ G x s t l l' ω im me ta fa) (hM : MV τ G m ω im me ta fa) (hI : IV ω im me ta) (v b : Int32) : gOk (f_L_trial τ n x v b o G) (fun q => gOk (f_X11_trial τ n m v b q.2) (fun p => q.1 = gi p.2 11 0 m ∧ (q.1 = 0 → gl p.2 o 0 = p.1.toInt64) ∧ ST τ x m p.2)) := by
  unfold f_L_trial
  by_cases hv : v < 0 ∨ 40 < v
  · refine join_q (ans := .inl x_IAE) hm ho hτ (by decide) hC hM hI ⟨(.inl x_IAE, G), by unfold f_X10_trial; exact ka_bxl (c_withinN hv), rfl, QC.rf⟩ (fun G1 hM1 => ?_)
    unfold f_X11_trial
    rw [ka_letE, m_in0, ka_bs, if_pos hv, if_pos rfl]
    unfold k_X11_trial_21
    rw [ka_b2 m_thIf1, if_neg ka_n10]
    refine ⟨_, rfl, ?_, QM.th.tr QM.th⟩
    show gCode [x_IAE] x_IAE 1 = some _
    rw [th_set]
    rfl
  · obtain ⟨N, -, hN, rfl⟩ := bt_of (lo := 0) (hi := 40) (by decide) (by decide) hv
    exact join_q (ans := .inr (trS ω N b)) hm ho hτ (by decide) hC hM hI (c_trial hC hI hn hv hN) (fun G1 hM1 => m_trial hM1 hI hn hv hN)
end
