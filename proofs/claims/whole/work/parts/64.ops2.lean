/-! CALLS: yarn, order -/
section
variable {τ : gτ} {n : Nat} {G : gG} {x m s t l l' o : Nat} {ω : gW} {im : Option gW} {me : List gW} {ta : List Nat} {fa : Int32}
theorem th_set {v : Int32} : gi (gsi G 11 0 m v) 11 0 m = v := by rw [ka_ii, if_pos ⟨rfl, rfl, rfl⟩]
theorem out_in {w : Int32} {a : Int32} {N : Nat} (hN : N + 1 < 2 ^ 30) (ha : a = nI N) : (w < 0 ∨ a < w) ↔ (w < 0 ∨ nI (N + 1) ≤ w) := by
  rw [ha, Int32.lt_iff_toInt_lt (x := nI N), Int32.le_iff_toInt_le, nI_toInt (by omega), nI_toInt (by omega)]
  constructor
  · rintro (h | h)
    · exact Or.inl h
    · exact Or.inr (by omega)
  · rintro (h | h)
    · exact Or.inl h
    · exact Or.inr (by omega)
def yaS (ω : gW) (k : Nat) : Nat → Int32
  | 0 => yv ω k 0
  | 1 => yv ω k 1
  | 2 => yv ω k 2
  | 3 => yv ω k 3
  | 4 => prY ω k
  | _ => usesS ω (nI k)
theorem c_yarn (hC : CV τ G x s t l l' ω im me ta fa) (hI : WI ω) (hn : 500 < n) {k j : Nat} (hk : k < cY ω) (hj : j < 6) : f_X10_yarn τ n x (nI k) (nI j) G = some (.inr (yaS ω k j), G) := by
  have hy := hI.y1
  have hv := hC.vs.y hk
  unfold f_X10_yarn
  rw [ka_bxr (c_yarnOf hC hI hk), hC.fs.1.ky (by omega)]
  match j, hj with
  | 0, _ => rw [if_pos (by decide), hv.1]; rfl
  | 1, _ => rw [if_neg (by decide), if_pos (by decide), hv.2.1]; rfl
  | 2, _ => rw [if_neg (by decide), if_neg (by decide), if_pos (by decide), hv.2.2.1]; rfl
  | 3, _ => rw [if_neg (by decide), if_neg (by decide), if_neg (by decide), if_pos (by decide), hv.2.2.2]; rfl
  | 4, _ =>
    rw [if_neg (by decide), if_neg (by decide), if_neg (by decide), if_neg (by decide), if_pos (by decide)]
    unfold f_X9_price
    rw [hv.1, hv.2.2.1, hv.2.2.2]
    rfl
  | 5, _ =>
    rw [if_neg (by decide), if_neg (by decide), if_neg (by decide), if_neg (by decide), if_neg (by decide), if_pos (by decide), hC.rf.2.2.2.2.2.2.2.2.2.2.1, ka_bs, s_usesOf hC.fs.1 hC.vs hI (by omega), ka_bs]
    rfl
theorem c_yarnW (hC : CV τ G x s t l l' ω im me ta fa) (hI : WI ω) {k : Nat} (hk : k < cY ω) {w : Int32} (hw : ∀ j, j < 6 → w ≠ nI j) : f_X10_yarn τ n x (nI k) w G = some (.inl x_NSE, G) := by
  have hy := hI.y1
  unfold f_X10_yarn
  rw [ka_bxr (c_yarnOf hC hI hk), hC.fs.1.ky (by omega), if_neg (show ¬ w = 0 from hw 0 (by decide)), if_neg (show ¬ w = 1 from hw 1 (by decide)), if_neg (show ¬ w = 2 from hw 2 (by decide)), if_neg (show ¬ w = 3 from hw 3 (by decide)), if_neg (show ¬ w = 4 from hw 4 (by decide)), if_neg (show ¬ w = 5 from hw 5 (by decide))]
theorem m_yarn (hM : FM τ G m) (hω : ge G (m + 1) = ω) (hI : WI ω) (hn : 500 < n) {k j : Nat} (hk : k < cY ω) (hj : j < 6) : gOk (f_X11_yarn τ n m (nI k) (nI j) G) (fun p => (gi p.2 11 0 m = 0 ∧ p.1 = yaS ω k j) ∧ QM m G p.2) := by
  have hy := hI.y1
  have hM1 : FM τ (gsi G 11 0 m 0) m := QM.th.fm hM
  have hω1 : ge (gsi G 11 0 m 0) (m + 1) = ω := hω
  have hk10 : k < 10 := by omega
  unfold f_X11_yarn
  rw [ka_letE, (m_no hM1 hω1 hI _).1, ka_bs, if_neg (no_k hk (by omega)), ka_b2 m_thIf0, if_pos rfl, m_in0, ka_bs, if_neg (fun h => no_k hj (by decide) ((out_in (a := 5) (N := 5) (by decide) rfl).mp h)), if_neg ka_n10]
  unfold k_X11_yarn_33
  rw [ka_b2 m_thIf0, if_pos rfl]
  match j, hj with
  | 0, _ => rw [if_neg (by decide), if_neg (by decide), hM1.ofYarn k 0 rfl rfl (by omega), ka_bs, hω1]; exact ⟨_, rfl, ⟨th_set, rfl⟩, QM.th⟩
  | 1, _ => rw [if_neg (by decide), if_neg (by decide), hM1.ofYarn k 1 rfl rfl (by omega), ka_bs, hω1]; exact ⟨_, rfl, ⟨th_set, rfl⟩, QM.th⟩
  | 2, _ => rw [if_neg (by decide), if_neg (by decide), hM1.ofYarn k 2 rfl rfl (by omega), ka_bs, hω1]; exact ⟨_, rfl, ⟨th_set, rfl⟩, QM.th⟩
  | 3, _ => rw [if_neg (by decide), if_neg (by decide), hM1.ofYarn k 3 rfl rfl (by omega), ka_bs, hω1]; exact ⟨_, rfl, ⟨th_set, rfl⟩, QM.th⟩
  | 4, _ => rw [if_pos (by decide), m_priceOfYarn hM1 hω1 hk10, ka_bs]; exact ⟨_, rfl, ⟨th_set, rfl⟩, QM.th⟩
  | 5, _ => rw [if_neg (by decide), if_pos (by decide), m_usesOf hM1 hω1 hI (by omega) hk10, ka_bs]; exact ⟨_, rfl, ⟨th_set, rfl⟩, QM.th⟩
theorem op_yarn (hm : m = x + 512) (ho : o = m + 11) (hτ : gn τ o = 1) (hn : 500 < n) (hC : CV τ G x s t l l' ω im me ta fa) (hM : MV τ G m ω im me ta fa) (hI : IV ω im me ta) (y w : Int32) : gOk (f_L_yarn τ n x y w o G) (fun q => gOk (f_X11_yarn τ n m y w q.2) (fun p => q.1 = gi p.2 11 0 m ∧ (q.1 = 0 → gl p.2 o 0 = p.1.toInt64) ∧ ST τ x m p.2)) := by
  have hy := hI.1.y1
  unfold f_L_yarn
  rcases arg_ix y (N := cY ω) (by omega) with ⟨k, hk, rfl⟩ | ⟨hno, -⟩
  · rcases arg_ix w (N := 6) (by decide) with ⟨j, hj, rfl⟩ | ⟨hw, hw2⟩
    · exact join_q (ans := .inr (yaS ω k j)) hm ho hτ (by decide) hC hM hI ⟨_, c_yarn hC hI.1 hn hk hj, rfl, QC.rf⟩ (fun G1 hM1 => m_yarn hM1.1 hM1.2.1 hI.1 hn hk hj)
    · refine join_q (ans := .inl x_NSE) hm ho hτ (by decide) hC hM hI ⟨_, c_yarnW hC hI.1 hk hw2, rfl, QC.rf⟩ (fun G1 hM1 => ?_)
      have hM2 : FM τ (gsi G1 11 0 m 0) m := QM.th.fm hM1.1
      have hω2 : ge (gsi G1 11 0 m 0) (m + 1) = ω := hM1.2.1
      unfold f_X11_yarn k_X11_yarn_33
      rw [ka_letE, (m_no hM2 hω2 hI.1 _).1, ka_bs, if_neg (no_k hk (by omega)), ka_b2 m_thIf0, if_pos rfl, m_in0, ka_bs, if_pos ((out_in (a := 5) (N := 5) (by decide) rfl).mpr hw), if_pos rfl, ka_b2 m_thIf1, if_neg ka_n10]
      refine ⟨_, rfl, ?_, QM.th.tr QM.th⟩
      show gCode [x_IOE, x_NSE] x_NSE 1 = some _
      rw [th_set]
      rfl
  · refine join_q (ans := .inl x_IOE) hm ho hτ (by decide) hC hM hI ⟨_, (by unfold f_X10_yarn; exact ka_bxl (c_yarnNo hC hI.1 hno)), rfl, QC.rf⟩ (fun G1 hM1 => ?_)
    have hM2 : FM τ (gsi G1 11 0 m 0) m := QM.th.fm hM1.1
    have hω2 : ge (gsi G1 11 0 m 0) (m + 1) = ω := hM1.2.1
    unfold f_X11_yarn
    rw [ka_letE, (m_no hM2 hω2 hI.1 _).1, ka_bs, if_pos hno, ka_b2 m_thIf1, if_neg ka_n10]
    refine ⟨_, rfl, ?_, QM.th.tr QM.th⟩
    show gCode [x_IOE, x_NSE] x_IOE 1 = some _
    rw [th_set]
    rfl
theorem op_order (hm : m = x + 512) (ho : o = m + 11) (hτ : gn τ o = 1) (hn : 500 < n) (hC : CV τ G x s t l l' ω im me ta fa) (hM : MV τ G m ω im me ta fa) (hI : IV ω im me ta) (y w : Int32) : gOk (f_L_order τ n x y w o G) (fun q => gOk (f_X11_order τ m y w q.2) (fun p => q.1 = gi p.2 11 0 m ∧ (q.1 = 0 → gl p.2 o 0 = p.1.toInt64) ∧ ST τ x m p.2)) := by
  have hy := hI.1.o1
  unfold f_L_order
  rcases arg_ix y (N := cO ω) (by omega) with ⟨k, hk, rfl⟩ | ⟨hno, -⟩
  · have hv := hC.vs.o hk
    rcases arg_ix w (N := 3) (by decide) with ⟨j, hj, rfl⟩ | ⟨hw, hw2⟩
    · refine join_q (ans := .inr (ov ω k j)) hm ho hτ (by decide) hC hM hI ⟨(.inr (ov ω k j), G), ?_, rfl, QC.rf⟩ (fun G1 hM1 => ?_)
      · unfold f_X10_order
        rw [ka_bxr (c_orderOf hC hI.1 hk), hC.fs.1.ko (by omega)]
        match j, hj with
        | 0, _ => rw [if_pos (by decide), hv.1]
        | 1, _ => rw [if_neg (by decide), if_pos (by decide), hv.2.1]
        | 2, _ => rw [if_neg (by decide), if_neg (by decide), if_pos (by decide), hv.2.2]
      · have hM2 : FM τ (gsi G1 11 0 m 0) m := QM.th.fm hM1.1
        have hω2 : ge (gsi G1 11 0 m 0) (m + 1) = ω := hM1.2.1
        unfold f_X11_order k_X11_order_33
        rw [ka_letE, (m_no hM2 hω2 hI.1 _).2.2, ka_bs, if_neg (no_k hk (by omega)), ka_b2 m_thIf0, if_pos rfl, m_in0, ka_bs, if_neg (fun h => no_k hj (by decide) ((out_in (a := 2) (N := 2) (by decide) rfl).mp h)), if_neg ka_n10, ka_b2 m_thIf0, if_pos rfl, hM2.ofOrder k j rfl rfl (by omega), ka_bs, hω2]
        exact ⟨_, rfl, ⟨th_set, rfl⟩, QM.th⟩
    · refine join_q (ans := .inl x_NSE) hm ho hτ (by decide) hC hM hI ⟨(.inl x_NSE, G), ?_, rfl, QC.rf⟩ (fun G1 hM1 => ?_)
      · unfold f_X10_order
        rw [ka_bxr (c_orderOf hC hI.1 hk), hC.fs.1.ko (by omega), if_neg (show ¬ w = 0 from hw2 0 (by decide)), if_neg (show ¬ w = 1 from hw2 1 (by decide)), if_neg (show ¬ w = 2 from hw2 2 (by decide))]
      · have hM2 : FM τ (gsi G1 11 0 m 0) m := QM.th.fm hM1.1
        have hω2 : ge (gsi G1 11 0 m 0) (m + 1) = ω := hM1.2.1
        unfold f_X11_order k_X11_order_33
        rw [ka_letE, (m_no hM2 hω2 hI.1 _).2.2, ka_bs, if_neg (no_k hk (by omega)), ka_b2 m_thIf0, if_pos rfl, m_in0, ka_bs, if_pos ((out_in (a := 2) (N := 2) (by decide) rfl).mpr hw), if_pos rfl, ka_b2 m_thIf1, if_neg ka_n10]
        refine ⟨_, rfl, ?_, QM.th.tr QM.th⟩
        show gCode [x_IOE, x_NSE] x_NSE 1 = some _
        rw [th_set]
        rfl
  · refine join_q (ans := .inl x_IOE) hm ho hτ (by decide) hC hM hI ⟨_, (by unfold f_X10_order; exact ka_bxl (c_orderNo hC hI.1 hno)), rfl, QC.rf⟩ (fun G1 hM1 => ?_)
    have hM2 : FM τ (gsi G1 11 0 m 0) m := QM.th.fm hM1.1
    have hω2 : ge (gsi G1 11 0 m 0) (m + 1) = ω := hM1.2.1
    unfold f_X11_order
    rw [ka_letE, (m_no hM2 hω2 hI.1 _).2.2, ka_bs, if_pos hno, ka_b2 m_thIf1, if_neg ka_n10]
    refine ⟨_, rfl, ?_, QM.th.tr QM.th⟩
    show gCode [x_IOE, x_NSE] x_IOE 1 = some _
    rw [th_set]
    rfl
end
