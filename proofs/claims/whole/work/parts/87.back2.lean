/-! CALLS: back -/
section
variable {τ : gτ} {n : Nat} {G G' : gG} {x m s t l l' o : Nat} {ω w : gW} {im : Option gW} {me : List gW} {ta : List Nat} {fa : Int32}
theorem m_backL (hM : FM τ G m) (hn : 6000 < n) : gOk (l_X11_back_16 τ n m 0 G) (fun G1 => (∀ j, ge G1 (m + 1) j = if j < 1316 then ge G (m + 2) j else ge G (m + 1) j) ∧ Fr (fun b => b = m + 1) G G1) := by
  unfold l_X11_back_16
  refine ka_loop 1316 (fun k q => q.1 = nI k ∧ (∀ j, ge q.2 (m + 1) j = if j < k then ge G (m + 2) j else ge G (m + 1) j) ∧ Fr (fun b => b = m + 1) G q.2) (by omega) ⟨rfl, fun j => by rw [if_neg (by omega)], Fr.rf⟩ (fun k q hk hp => ?_)
  obtain ⟨y, G1⟩ := q
  obtain ⟨e1, e2, e3⟩ := hp
  have e1 : y = nI k := e1
  have e2 : ∀ j, ge G1 (m + 1) j = if j < k then ge G (m + 2) j else ge G (m + 1) j := e2
  have e3 : Fr (fun b => b = m + 1) G G1 := e3
  subst e1
  have hM1 : FM τ G1 m := e3.fm hM (by omega)
  have ew : ge G1 (m + 2) = ge G (m + 2) := (e3 (m + 2) (by omega)).2.2.1
  show gOk (b_X11_back_16 τ n m (nI k) G1) _
  unfold b_X11_back_16
  by_cases hlt : k < 1316
  · rw [if_neg (show ¬ (1316 : Int32) ≤ nI k from nI_ge (b := 1316) hlt (by decide)), hM1.rf.1, ka_bs, hM1.rf.2.1, ka_bs, ka_chkT (by rw [hM1.2.2.1]; exact ka_in hlt (by decide)), hM1.w k rfl (by omega), ka_letE, ka_letE, nI_1, nI_clamp (by omega)]
    refine ⟨_, rfl, hlt, rfl, fun j => ?_, e3.tr (Fr.e rfl)⟩
    show ge (gse G1 (m + 1) k (ge G1 (m + 2) k)) (m + 1) j = _
    rw [ka_ee, ew]
    by_cases hj : j = k
    · rw [if_pos ⟨rfl, hj⟩, if_pos (by omega), hj]
    · rw [if_neg (fun h => hj h.2), e2]
      by_cases hjk : j < k
      · rw [if_pos hjk, if_pos (by omega)]
      · rw [if_neg hjk, if_neg (by omega)]
  · have hkN : k = 1316 := by omega
    subst hkN
    rw [if_pos (show (1316 : Int32) ≤ nI 1316 from Int32.le_refl _)]
    exact ⟨_, rfl, e2, e3⟩
theorem m_back (hM : MV τ G m ω (some w) me ta fa) (hn : 6000 < n) : gOk (f_X11_back τ n m G) (fun p => p.1 = 1 ∧ MV τ p.2 m (bkW w ω) (some w) [] ta fa ∧ Fr (fun b => m ≤ b ∧ b ≤ m + 10) G p.2) := by
  have hM2 : MV τ (gsi G 11 0 m 0) m ω (some w) me ta fa := hM.th0
  have fth : Fr (fun b => m ≤ b ∧ b ≤ m + 10) G (gsi G 11 0 m 0) := Fr.i ⟨Nat.le_refl _, by omega⟩
  unfold f_X11_back
  rw [ka_letE]
  generalize gsi G 11 0 m 0 = G1 at hM2 fth
  obtain ⟨hF, hω, ⟨i1, i2⟩, -, ⟨t1, t2⟩, t3⟩ := hM2
  have i1 : gi G1 11 6 m = 1 := i1
  rw [i1, if_neg ka_n10, ka_bind]
  refine gOk.mono (m_backL hF hn) fun G3 h3 => ?_
  obtain ⟨h3, f3⟩ := h3
  rw [ka_letE]
  unfold k_X11_back_41
  rw [ka_letE]
  have q3 := f3 m (by omega)
  have f4 : Fr (fun b => b = m) G3 (gsi G3 11 7 m 0) := Fr.i rfl
  have hF3 : FM τ G3 m := f3.fm hF (by omega)
  have hF4 : FM τ (gsi G3 11 7 m 0) m := hF3
  have d7 : gi (gsi G3 11 7 m 0) 11 7 m = 0 := by simp [ka_ii]
  have dn : ∀ k, k ≠ 7 → gi (gsi G3 11 7 m 0) 11 k m = gi G1 11 k m := fun k hk => by
    rw [ka_ii, if_neg (fun h => hk h.2.1), q3.1]
  generalize gsi G3 11 7 m 0 = G4 at f4 hF4 d7 dn
  refine ⟨_, rfl, rfl, ⟨hF4, ?_, ⟨(dn 6 (by decide)).trans i1, fun v h' j hj => ?_⟩, ⟨d7, fun j v hj i hi => ?_⟩, ⟨(dn 9 (by decide)).trans t1, fun j b hj => ?_⟩, (dn 14 (by decide)).trans t3⟩, (fth.tr (f3.mono fun b hb => by omega)).tr (f4.mono fun b hb => by omega)⟩
  · funext j
    show ge G4 (m + 1) j = _
    rw [(f4 (m + 1) (by omega)).2.2.1, h3]
    unfold bkW
    by_cases hj : j < 1316
    · rw [if_pos hj, if_pos hj]
      exact i2 w rfl j hj
    · rw [if_neg hj, if_neg hj, hω]
  · show ge G4 (m + 2) j = _
    rw [(f4 (m + 2) (by omega)).2.2.1, (f3 (m + 2) (by omega)).2.2.1]; exact i2 v h' j hj
  · cases hj
  · show ge G4 (m + 6) j = _
    rw [(f4 (m + 6) (by omega)).2.2.1, (f3 (m + 6) (by omega)).2.2.1]; exact t2 j b hj
theorem op_back (hm : m = x + 512) (hn : 6000 < n) (hC : CV τ G x s t l l' ω im me ta fa) (hM : MV τ G m ω im me ta fa) (hI : IV ω im me ta) : gOk (f_X10_back τ n x G) (fun q => gOk (f_X11_back τ n m q.2) (fun p => q.1 = p.1 ∧ ST τ x m p.2)) := by
  cases im with
  | none =>
    have i1 : gi G 10 14 x = 0 := hC.2.2.2.1.1
    refine join_p (ans := 0) hm hC hM hI ⟨(0, G), ?_, rfl, QC.rf⟩ (fun G1 hM1 => ⟨(0, gsi G1 11 0 m 0), ?_, rfl, QM.th⟩)
    · unfold f_X10_back
      rw [i1, if_pos rfl]
    · have e6 : gi (gsi G1 11 0 m 0) 11 6 m = 0 := hM1.th0.2.2.1.1
      unfold f_X11_back
      rw [ka_letE, e6, if_pos rfl]
  | some w =>
    obtain ⟨hWw, hLw⟩ := hI.2.2.1 w rfl
    have hIV : IV (bkW w ω) (some w) [] ta := ⟨wi_of (fun j hj => bkW_lo j (by omega)) hWw, li_lo bkW_lo hLw, hI.2.2.1, ⟨Nat.zero_le _, fun j v hj => by cases hj⟩, hI.2.2.2.2⟩
    refine gOk.mono (c_back hC hI (by omega)) fun q hq => ?_
    obtain ⟨q1, q2, q3⟩ := hq
    refine gOk.mono (m_back (hM.out q3 fun b c1 c2 => by omega) hn) fun p hp => ?_
    obtain ⟨p1, p2, p3⟩ := hp
    exact ⟨q1.trans p1.symm, ST.mk0 hm hIV q2 Fr.rf WE.rf p2 p3⟩
end
