/-! CALLS: undo, seed -/
section
variable {τ : gτ} {n : Nat} {G G' : gG} {x m s t l l' o : Nat} {ω ω' w : gW} {im : Option gW} {me me' : List gW} {ta : List Nat} {fa : Int32}
theorem m_undoL (hM : FM τ G m) {c : Nat} (hc : gi G 11 7 m = nI c) (hc12 : c < 12) (hn : 6000 < n) : gOk (l_X11_undo_26 τ n m 0 G) (fun G1 => (∀ j, ge G1 (m + 1) j = if j < 467 then ge G (m + 5) (467 * c + j) else ge G (m + 1) j) ∧ Fr (fun b => b = m + 1) G G1) := by
  unfold l_X11_undo_26
  refine ka_loop 467 (fun k q => q.1 = nI k ∧ (∀ j, ge q.2 (m + 1) j = if j < k then ge G (m + 5) (467 * c + j) else ge G (m + 1) j) ∧ Fr (fun b => b = m + 1) G q.2) (by omega) ⟨rfl, fun j => by rw [if_neg (by omega)], Fr.rf⟩ (fun k q hk hp => ?_)
  obtain ⟨y, G1⟩ := q
  obtain ⟨e1, e2, e3⟩ := hp
  have e1 : y = nI k := e1
  have e2 : ∀ j, ge G1 (m + 1) j = if j < k then ge G (m + 5) (467 * c + j) else ge G (m + 1) j := e2
  have e3 : Fr (fun b => b = m + 1) G G1 := e3
  subst e1
  have hM1 : FM τ G1 m := e3.fm hM (by omega)
  have e7 : gi G1 11 7 m = nI c := by rw [(e3 m (by omega)).1]; exact hc
  have ew : ge G1 (m + 5) = ge G (m + 5) := (e3 (m + 5) (by omega)).2.2.1
  have p2 : (467 : Int32) * nI c + nI k = nI (467 * c + k) := by rw [show (467 : Int32) = nI 467 from rfl, pk_mul, nI_add]
  show gOk (b_X11_undo_26 τ n m (nI k) G1) _
  unfold b_X11_undo_26
  by_cases hlt : k < 467
  · rw [if_neg (show ¬ (467 : Int32) ≤ nI k from nI_ge (b := 467) hlt (by decide)), hM1.rf.1, ka_bs, hM1.rf.2.2.2.2.1, ka_bs, e7, p2, m_acts hM1 (by omega), hM1.w k rfl (by omega), ka_letE, ka_letE, nI_1, nI_clamp (by omega), nI_clamp (by omega)]
    refine ⟨_, rfl, hlt, rfl, fun j => ?_, e3.tr (Fr.e rfl)⟩
    show ge (gse G1 (m + 1) k (ge G1 (m + 5) (467 * c + k))) (m + 1) j = _
    rw [ka_ee, ew]
    by_cases hj : j = k
    · rw [if_pos ⟨rfl, hj⟩, if_pos (by omega), hj]
    · rw [if_neg (fun h => hj h.2), e2]
      by_cases hjk : j < k
      · rw [if_pos hjk, if_pos (by omega)]
      · rw [if_neg hjk, if_neg (by omega)]
  · have hkN : k = 467 := by omega
    subst hkN
    rw [if_pos (show (467 : Int32) ≤ nI 467 from Int32.le_refl _)]
    exact ⟨_, rfl, e2, e3⟩
theorem m_undo {L : List gW} (hM : MV τ G m ω im (L ++ [w]) ta fa) (hI : IV ω im (L ++ [w]) ta) (hn : 6000 < n) : gOk (f_X11_undo τ n m G) (fun p => p.1 = 1 ∧ MV τ p.2 m (ovr w ω) im L ta fa ∧ Fr (fun b => m ≤ b ∧ b ≤ m + 10) G p.2) := by
  obtain ⟨-, -, -, hL12⟩ := hI.pop
  have hl : (L ++ [w]).length = L.length + 1 := by rw [List.length_append]; rfl
  have hM2 : MV τ (gsi G 11 0 m 0) m ω im (L ++ [w]) ta fa := hM.th0
  have fth : Fr (fun b => m ≤ b ∧ b ≤ m + 10) G (gsi G 11 0 m 0) := Fr.i ⟨Nat.le_refl _, by omega⟩
  unfold f_X11_undo
  rw [ka_letE]
  generalize hG1 : gsi G 11 0 m 0 = G1 at hM2 fth
  obtain ⟨hF, hω, ⟨i1, i2⟩, ⟨m1, m2⟩, ⟨t1, t2⟩, t3⟩ := hM2
  rw [hl] at m1
  have p1 : nI (L.length + 1) - 1 = nI L.length := by rw [← nI_1, Int32.add_sub_cancel]
  rw [m1, if_neg (show ¬ nI (L.length + 1) = 0 from fun h => absurd ((nI_eq (b := 0) (by omega) (by decide)).mp h) (by omega)), ka_letE, p1, ka_bind]
  have f2 : Fr (fun b => b = m) G1 (gsi G1 11 7 m (nI L.length)) := Fr.i rfl
  have hF2 : FM τ (gsi G1 11 7 m (nI L.length)) m := hF
  refine gOk.mono (m_undoL hF2 (c := L.length) (by simp [ka_ii]) hL12 hn) fun G3 h3 => ?_
  obtain ⟨h3, f3⟩ := h3
  rw [ka_letE]
  have q3 := f3 m (by omega)
  refine ⟨_, rfl, rfl, ⟨f3.fm hF2 (by omega), ?_, ⟨?_, fun v h' j hj => ?_⟩, ⟨?_, fun j v hj i hi => ?_⟩, ⟨?_, fun j b hj => ?_⟩, ?_⟩, (fth.tr (f2.mono fun b hb => by omega)).tr (f3.mono fun b hb => by omega)⟩
  · funext j
    show ge G3 (m + 1) j = _
    rw [h3]
    unfold ovr
    by_cases hj : j < 467
    · rw [if_pos hj, if_pos hj]
      exact m2 _ _ app_hi j hj
    · rw [if_neg hj, if_neg hj, ka_ei, hω]
  · show gi G3 11 6 m = _
    rw [q3.1, ka_ii, if_neg (fun h => absurd h.2.1 (by decide))]; exact i1
  · show ge G3 (m + 2) j = _
    rw [(f3 (m + 2) (by omega)).2.2.1]; exact i2 v h' j hj
  · show gi G3 11 7 m = _
    rw [q3.1]; simp [ka_ii]
  · show ge G3 (m + 5) _ = _
    have hlt : j < L.length := (List.getElem?_eq_some_iff.mp hj).1
    rw [(f3 (m + 5) (by omega)).2.2.1]
    exact m2 j v (by rw [app_lo hlt]; exact hj) i hi
  · show gi G3 11 9 m = _
    rw [q3.1, ka_ii, if_neg (fun h => absurd h.2.1 (by decide))]; exact t1
  · show ge G3 (m + 6) j = _
    rw [(f3 (m + 6) (by omega)).2.2.1]; exact t2 j b hj
  · show gi G3 11 14 m = _
    rw [q3.1, ka_ii, if_neg (fun h => absurd h.2.1 (by decide))]; exact t3
theorem op_undo (hm : m = x + 512) (hn : 6000 < n) (hC : CV τ G x s t l l' ω im me ta fa) (hM : MV τ G m ω im me ta fa) (hI : IV ω im me ta) : gOk (f_X10_undo τ n x G) (fun q => gOk (f_X11_undo τ n m q.2) (fun p => q.1 = p.1 ∧ ST τ x m p.2)) := by
  rcases last_of me with rfl | ⟨L, w, rfl⟩
  · obtain ⟨nx, m1, m2, m3, m4⟩ := hC.2.2.2.2.1
    refine join_p (ans := 0) hm hC hM hI ⟨(0, G), ?_, rfl, QC.rf⟩ (fun G1 hM1 => ⟨(0, gsi G1 11 0 m 0), ?_, rfl, QM.th⟩)
    · unfold f_X10_undo f_X3_recall
      rw [hC.rf.2.2.2.1, ka_bs, hC.rf.2.2.2.2.2.2.2.2.2.2.1, ka_bs, m2, if_pos (show nI ([] : List gW).length = 0 from rfl)]
      show gchk ((0 : Int32) = 0 ∨ (0 : Int32) = 1) (some ((0 : Int32), G)) = _
      rw [ka_chkT (Or.inl rfl)]
    · have e7 : gi (gsi G1 11 0 m 0) 11 7 m = 0 := hM1.th0.2.2.2.1.1
      unfold f_X11_undo
      rw [ka_letE, e7, if_pos rfl]
  · obtain ⟨hIp, hWw, hw4, -⟩ := hI.pop
    have hIV : IV (ovr w ω) im L ta := iv_of hIp (wi_of ovr_lo hWw) (by rw [ovr_lo 4 (by decide)]; exact hw4) ovr_hi
    refine gOk.mono (c_undo hC hI (by omega)) fun q hq => ?_
    obtain ⟨q1, q2, q3⟩ := hq
    refine gOk.mono (m_undo (hM.out q3 fun b c1 c2 => by omega) hI hn) fun p hp => ?_
    obtain ⟨p1, p2, p3⟩ := hp
    exact ⟨q1.trans p1.symm, ST.mk0 hm hIV q2 Fr.rf WE.rf p2 p3⟩
end
