/-! CALLS: best, cheapest -/
section
variable {τ : gτ} {n : Nat} {G : gG} {x m s t l l' o : Nat} {ω ω' : gW} {im : Option gW} {me : List gW} {ta : List Nat} {fa : Int32}
theorem tr_eq (h : WE ω ω') (a b c v : Int32) : tr ω' 8 a b c v = tr ω 8 a b c v := by
  funext j
  unfold tr
  by_cases hj : 53 + 10 * 8 ≤ j ∧ j < 63 + 10 * 8
  · rw [if_pos hj, if_pos hj]
  · rw [if_neg hj, if_neg hj]
    exact h j (by omega)
/-- the reference in the midst of a question -/
def QT (m : Nat) (G G' : gG) : Prop := QM m G G' ∧ gi G' 11 0 m = gi G 11 0 m
theorem QT.rf : QT m G G := ⟨QM.rf, rfl⟩
theorem QT.tr {G' G'' : gG} (h : QT m G G') (h' : QT m G' G'') : QT m G G'' := ⟨h.1.tr h'.1, h'.2.trans h.2⟩
theorem QT.v {G' : gG} (hf : Fr (fun b => b = m + 8) G G') : QT m G G' := ⟨QM.v hf, (hf m (by omega)).1 11 0⟩
theorem m_bestL (hM : FM τ G m) (hω : ge G (m + 1) = ω) (hI : WI ω) (hLI : LI ω) (hn : 500 < n) {v : Int32} (hv : bt v 1 200) : gOk (l_X11_best_38 τ n m v (-1) (-1) 0 G) (fun r => r.1 = (T3 (beF ω v) (cY ω) (-1, -1)).1 ∧ QT m G r.2) := by
  have hy := hI.y1
  have hv4 : bt v 1 400 := by obtain ⟨k, h1, h2, h3⟩ := hv; exact ⟨k, h1, by omega, h3⟩
  have bm1 : (beF ω v = beF ω v) := rfl
  have pos : ∀ w : Int32, ¬ w < -1 → True := fun _ _ => trivial
  unfold l_X11_best_38
  refine gOk.mono (loop3 (n := n) (N := cY ω) (by omega) (beF ω v)
    (fun a b c s q => ((q.1, q.2.1) = s ∧ -1 ≤ q.2.1) ∧ q.2.2.1 = nI c ∧ QT m G q.2.2.2) (fun a b s r => ((r.1, r.2.1) = s ∧ -1 ≤ r.2.1) ∧ QT m G r.2.2) (fun a b q => b_X11_best_68 τ n m v q.1 q.2.1 (nI a) (nI b) q.2.2.1 q.2.2.2)
    (fun a b c s q hab hbc hc hp => ?_) (fun a b s q hab hb hp => ?_)
    (fun a b s q => ((q.1, q.2.1) = s ∧ -1 ≤ q.2.1) ∧ q.2.2.1 = nI b ∧ QT m G q.2.2.2) (fun a s r => ((r.1, r.2.1) = s ∧ -1 ≤ r.2.1) ∧ QT m G r.2.2) (fun a q => b_X11_best_53 τ n m v q.1 q.2.1 (nI a) q.2.2.1 q.2.2.2)
    (fun a b s q hab hb hp => ?_) (fun a s q ha hp => ?_)
    (fun a s q => ((q.1, q.2.1) = s ∧ -1 ≤ q.2.1) ∧ q.2.2.1 = nI a ∧ QT m G q.2.2.2) (fun s r => r.1 = s.1 ∧ QT m G r.2) (fun q => b_X11_best_38 τ n m v q.1 q.2.1 q.2.2.1 q.2.2.2)
    (fun a s q ha hp => ?_) (fun s q hp => ?_) (s := (-1, -1)) (q := (-1, -1, 0, G)) ⟨⟨rfl, (by decide : (-1 : Int32) ≤ -1)⟩, rfl, QT.rf⟩) fun r hr => hr
  · obtain ⟨p1, p2, p3, G1⟩ := q
    obtain ⟨⟨rfl, hm1⟩, rfl, h3⟩ := hp
    have h3 : QT m G G1 := h3
    have hm1 : -1 ≤ p2 := hm1
    have hM1 := h3.1.fm hM
    have hwe : WE ω (ge G1 (m + 1)) := by rw [← hω]; exact h3.1.2.2.2
    have hc0 : ge G1 (m + 1) 0 = nI (cY ω) := by rw [hwe 0 (by omega)]; exact hI.y0
    show gOk (b_X11_best_68 τ n m v p1 p2 (nI a) (nI b) (nI c) G1) _
    unfold b_X11_best_68
    rw [hM1.cn.1, ka_bs, hc0, if_neg (nI_ge hc (by omega)), m_haveLength hM1 rfl (by omega) (by omega) (by omega), ka_bs, hwe.y (by omega) (by decide), hwe.y (by omega) (by decide), hwe.y (by omega) (by decide)]
    unfold k_X11_best_106
    by_cases h1 : yv ω a 1 < v ∨ yv ω b 1 < v ∨ yv ω c 1 < v
    · rw [if_pos h1, if_pos rfl, if_neg (Int32.not_lt.mpr hm1), ka_letE, nI_1]
      refine ⟨_, rfl, ⟨?_, hm1⟩, rfl, h3⟩
      show (p1, p2) = beF ω v a b c (p1, p2)
      unfold beF
      rw [if_pos h1]
    · rw [if_neg h1, if_neg ka_n10, ka_bind2]
      have hcy := hwe.cs.1
      refine gOk.mono (m_bearsBy hM1 rfl (hwe.wi hI) (hwe.li hLI) hn (by rw [hcy]; omega) (by rw [hcy]; omega) (by rw [hcy]; omega) (by omega) (by omega) (by omega) hv4) fun p hp => ?_
      obtain ⟨w, G2⟩ := p
      obtain ⟨hw, h4, h5⟩ := hp
      have hw : w = beS (tr ω 8 (nI a) (nI b) (nI c) v) 8 := by rw [← tr_eq hwe]; exact hw
      subst hw
      have h6 : QT m G G2 := h3.tr ⟨h4, h5⟩
      by_cases h2 : beS (tr ω 8 (nI a) (nI b) (nI c) v) 8 ≤ p2
      · rw [if_neg (Int32.not_lt.mpr h2), ka_letE, nI_1]
        refine ⟨_, rfl, ⟨?_, hm1⟩, rfl, h6⟩
        show (p1, p2) = beF ω v a b c (p1, p2)
        unfold beF
        rw [if_neg h1, if_pos h2]
      · rw [if_pos (Int32.not_le.mp h2), ka_letE, ka_letE, nI_1]
        refine ⟨_, rfl, ⟨?_, Int32.le_trans hm1 (Int32.le_of_lt (Int32.not_le.mp h2))⟩, rfl, h6⟩
        show (_, _) = beF ω v a b c (p1, p2)
        unfold beF
        rw [if_neg h1, if_neg h2]
        rfl
  · obtain ⟨p1, p2, p3, G1⟩ := q
    obtain ⟨⟨rfl, hm1⟩, rfl, h3⟩ := hp
    have h3 : QT m G G1 := h3
    have hM1 := h3.1.fm hM
    have hwe : WE ω (ge G1 (m + 1)) := by rw [← hω]; exact h3.1.2.2.2
    have hc0 : ge G1 (m + 1) 0 = nI (cY ω) := by rw [hwe 0 (by omega)]; exact hI.y0
    show gOk (b_X11_best_68 τ n m v p1 p2 (nI a) (nI b) (nI (cY ω)) G1) _
    unfold b_X11_best_68
    rw [hM1.cn.1, ka_bs, hc0, if_pos (nI_le (Nat.le_refl _) (by omega))]
    exact ⟨_, rfl, ⟨rfl, hm1⟩, h3⟩
  · obtain ⟨p1, p2, p3, G1⟩ := q
    obtain ⟨⟨rfl, hm1⟩, rfl, h3⟩ := hp
    have h3 : QT m G G1 := h3
    have hM1 := h3.1.fm hM
    have hwe : WE ω (ge G1 (m + 1)) := by rw [← hω]; exact h3.1.2.2.2
    have hc0 : ge G1 (m + 1) 0 = nI (cY ω) := by rw [hwe 0 (by omega)]; exact hI.y0
    refine ⟨(p1, p2, nI (b + 1), G1), ⟨⟨rfl, hm1⟩, rfl, h3⟩, fun s' hs => ?_⟩
    show gOk (b_X11_best_53 τ n m v p1 p2 (nI a) (nI b) G1) _
    unfold b_X11_best_53 l_X11_best_68
    rw [hM1.cn.1, ka_bs, hc0, if_neg (nI_ge hb (by omega)), ka_letE, nI_1, ka_bind]
    refine gOk.mono hs fun r hr => ⟨_, rfl, hr.1, rfl, hr.2⟩
  · obtain ⟨p1, p2, p3, G1⟩ := q
    obtain ⟨⟨rfl, hm1⟩, rfl, h3⟩ := hp
    have h3 : QT m G G1 := h3
    have hM1 := h3.1.fm hM
    have hwe : WE ω (ge G1 (m + 1)) := by rw [← hω]; exact h3.1.2.2.2
    have hc0 : ge G1 (m + 1) 0 = nI (cY ω) := by rw [hwe 0 (by omega)]; exact hI.y0
    show gOk (b_X11_best_53 τ n m v p1 p2 (nI a) (nI (cY ω)) G1) _
    unfold b_X11_best_53
    rw [hM1.cn.1, ka_bs, hc0, if_pos (nI_le (Nat.le_refl _) (by omega))]
    exact ⟨_, rfl, ⟨rfl, hm1⟩, h3⟩
  · obtain ⟨p1, p2, p3, G1⟩ := q
    obtain ⟨⟨rfl, hm1⟩, rfl, h3⟩ := hp
    have h3 : QT m G G1 := h3
    have hM1 := h3.1.fm hM
    have hwe : WE ω (ge G1 (m + 1)) := by rw [← hω]; exact h3.1.2.2.2
    have hc0 : ge G1 (m + 1) 0 = nI (cY ω) := by rw [hwe 0 (by omega)]; exact hI.y0
    refine ⟨(p1, p2, nI (a + 1), G1), ⟨⟨rfl, hm1⟩, rfl, h3⟩, fun s' hs => ?_⟩
    show gOk (b_X11_best_38 τ n m v p1 p2 (nI a) G1) _
    unfold b_X11_best_38 l_X11_best_53
    rw [hM1.cn.1, ka_bs, hc0, if_neg (nI_ge ha (by omega)), ka_letE, nI_1, ka_bind]
    refine gOk.mono hs fun r hr => ⟨_, rfl, hr.1, rfl, hr.2⟩
  · obtain ⟨p1, p2, p3, G1⟩ := q
    obtain ⟨⟨rfl, hm1⟩, rfl, h3⟩ := hp
    have h3 : QT m G G1 := h3
    have hM1 := h3.1.fm hM
    have hwe : WE ω (ge G1 (m + 1)) := by rw [← hω]; exact h3.1.2.2.2
    have hc0 : ge G1 (m + 1) 0 = nI (cY ω) := by rw [hwe 0 (by omega)]; exact hI.y0
    show gOk (b_X11_best_38 τ n m v p1 p2 (nI (cY ω)) G1) _
    unfold b_X11_best_38
    rw [hM1.cn.1, ka_bs, hc0, if_pos (nI_le (Nat.le_refl _) (by omega))]
    exact ⟨_, rfl, rfl, h3⟩
theorem op_best (hm : m = x + 512) (ho : o = m + 11) (hτ : gn τ o = 1) (hn : 500 < n) (hC : CV τ G x s t l l' ω im me ta fa) (hM : MV τ G m ω im me ta fa) (hI : IV ω im me ta) (v : Int32) : gOk (f_L_best τ n x v o G) (fun q => gOk (f_X11_best τ n m v q.2) (fun p => q.1 = gi p.2 11 0 m ∧ (q.1 = 0 → gl p.2 o 0 = p.1.toInt64) ∧ ST τ x m p.2)) := by
  unfold f_L_best
  by_cases hv : v < 1 ∨ 200 < v
  · refine join_q (ans := .inl x_IAE) hm ho hτ (by decide) hC hM hI ⟨_, (by unfold f_X10_best; exact ka_bxl (c_withinN hv)), rfl, QC.rf⟩ (fun G1 hM1 => ?_)
    unfold f_X11_best k_X11_best_22
    rw [ka_letE, m_in0, ka_bs, if_pos hv, if_pos rfl, ka_b2 m_thIf1, if_neg ka_n10]
    refine ⟨_, rfl, ?_, QM.th.tr QM.th⟩
    show gCode [x_IAE] x_IAE 1 = some _
    rw [th_set]
    rfl
  · have hbt : bt v 1 200 := bt_of (lo := 1) (hi := 200) (by decide) (by decide) hv
    refine join_q hm ho hτ (by decide) hC hM hI (c_best hC hI hn hbt) (fun G1 hM1 => ?_)
    have hM2 : FM τ (gsi G1 11 0 m 0) m := QM.th.fm hM1.1
    have hω2 : ge (gsi G1 11 0 m 0) (m + 1) = ω := hM1.2.1
    unfold f_X11_best k_X11_best_22
    rw [ka_letE, m_in0, ka_bs, if_neg hv, if_neg ka_n10, ka_b2 m_thIf0, if_pos rfl, ka_bind]
    exact gOk.mono (m_bestL hM2 hω2 hI.1 hI.2.1 hn hbt) fun r hr => ⟨_, rfl, ⟨hr.2.2.trans th_set, hr.1⟩, QM.th.tr hr.2.1⟩
end
